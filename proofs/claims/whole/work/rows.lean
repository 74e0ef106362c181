section
-- ===== PART A: goes FIRST, ahead of the names: the tables' words, and 'selects' of the private methods out of them =====
/-- a private method of a class that the tables say can be made, by its rows of tables_1 -/
def lw_okq (q : MethodName × Nat) : Prop := (q.1.cls ≠ "java/lang/invoke/MethodHandle" ∧ q.1.cls ≠ "java/lang/invoke/VarHandle") ∧ Cond.instantiable q.1.cls q.2 ∈ tables_1 ∧ Cond.privateMethod q.1 ∈ tables_1 ∧ Cond.instanceMethod q.1 ∈ tables_1
theorem lw_p0 : lw_okq (⟨"PenniesAway", "found", "(I)I"⟩, 11) := ⟨⟨by decide +kernel, by decide +kernel⟩, List.mem_of_getElem? (i := 20) (by decide +kernel), List.mem_of_getElem? (i := 254) (by decide +kernel), List.mem_of_getElem? (i := 255) (by decide +kernel)⟩
theorem lw_p1 : lw_okq (⟨"PenniesAway", "answered", "(I)I"⟩, 11) := ⟨⟨by decide +kernel, by decide +kernel⟩, List.mem_of_getElem? (i := 20) (by decide +kernel), List.mem_of_getElem? (i := 266) (by decide +kernel), List.mem_of_getElem? (i := 267) (by decide +kernel)⟩
theorem lw_p2 : lw_okq (⟨"PenniesAway$Tape", "sortOfByte", "(I)I"⟩, 6) := ⟨⟨by decide +kernel, by decide +kernel⟩, List.mem_of_getElem? (i := 38) (by decide +kernel), List.mem_of_getElem? (i := 332) (by decide +kernel), List.mem_of_getElem? (i := 333) (by decide +kernel)⟩
theorem lw_p3 : lw_okq (⟨"PenniesAway$Tape", "weighFigures", "()V"⟩, 6) := ⟨⟨by decide +kernel, by decide +kernel⟩, List.mem_of_getElem? (i := 38) (by decide +kernel), List.mem_of_getElem? (i := 336) (by decide +kernel), List.mem_of_getElem? (i := 337) (by decide +kernel)⟩
theorem lw_p4 : lw_okq (⟨"PenniesAway$Reader", "readLaw", "(LPenniesAway$Realm;)Z"⟩, 4) := ⟨⟨by decide +kernel, by decide +kernel⟩, List.mem_of_getElem? (i := 32) (by decide +kernel), List.mem_of_getElem? (i := 340) (by decide +kernel), List.mem_of_getElem? (i := 341) (by decide +kernel)⟩
theorem lw_p5 : lw_okq (⟨"PenniesAway$Reader", "faulty", "(I)Z"⟩, 4) := ⟨⟨by decide +kernel, by decide +kernel⟩, List.mem_of_getElem? (i := 32) (by decide +kernel), List.mem_of_getElem? (i := 397) (by decide +kernel), List.mem_of_getElem? (i := 398) (by decide +kernel)⟩
theorem lw_p6 : lw_okq (⟨"PenniesAway$Reader", "takeNumber", "(II)Z"⟩, 4) := ⟨⟨by decide +kernel, by decide +kernel⟩, List.mem_of_getElem? (i := 32) (by decide +kernel), List.mem_of_getElem? (i := 402) (by decide +kernel), List.mem_of_getElem? (i := 403) (by decide +kernel)⟩
theorem lw_p7 : lw_okq (⟨"PenniesAway$Reader", "takeSign", "()Z"⟩, 4) := ⟨⟨by decide +kernel, by decide +kernel⟩, List.mem_of_getElem? (i := 32) (by decide +kernel), List.mem_of_getElem? (i := 407) (by decide +kernel), List.mem_of_getElem? (i := 408) (by decide +kernel)⟩
theorem lw_p8 : lw_okq (⟨"PenniesAway$Reader", "readRoads", "(LPenniesAway$Realm;)Z"⟩, 4) := ⟨⟨by decide +kernel, by decide +kernel⟩, List.mem_of_getElem? (i := 32) (by decide +kernel), List.mem_of_getElem? (i := 411) (by decide +kernel), List.mem_of_getElem? (i := 412) (by decide +kernel)⟩
theorem lw_p9 : lw_okq (⟨"PenniesAway$Reader", "readRoad", "(LPenniesAway$Realm;)Z"⟩, 4) := ⟨⟨by decide +kernel, by decide +kernel⟩, List.mem_of_getElem? (i := 32) (by decide +kernel), List.mem_of_getElem? (i := 416) (by decide +kernel), List.mem_of_getElem? (i := 417) (by decide +kernel)⟩
theorem lw_p10 : lw_okq (⟨"PenniesAway$Reader", "readHolders", "(LPenniesAway$Realm;)Z"⟩, 4) := ⟨⟨by decide +kernel, by decide +kernel⟩, List.mem_of_getElem? (i := 32) (by decide +kernel), List.mem_of_getElem? (i := 427) (by decide +kernel), List.mem_of_getElem? (i := 428) (by decide +kernel)⟩
theorem lw_p11 : lw_okq (⟨"PenniesAway$Reader", "readCoins", "(LPenniesAway$Realm;)Z"⟩, 4) := ⟨⟨by decide +kernel, by decide +kernel⟩, List.mem_of_getElem? (i := 32) (by decide +kernel), List.mem_of_getElem? (i := 436) (by decide +kernel), List.mem_of_getElem? (i := 437) (by decide +kernel)⟩
theorem lw_p12 : lw_okq (⟨"PenniesAway$Reader", "readCoin", "(LPenniesAway$Realm;)Z"⟩, 4) := ⟨⟨by decide +kernel, by decide +kernel⟩, List.mem_of_getElem? (i := 32) (by decide +kernel), List.mem_of_getElem? (i := 441) (by decide +kernel), List.mem_of_getElem? (i := 442) (by decide +kernel)⟩
theorem lw_p13 : lw_okq (⟨"PenniesAway$Reader", "kindOfWord", "()I"⟩, 4) := ⟨⟨by decide +kernel, by decide +kernel⟩, List.mem_of_getElem? (i := 32) (by decide +kernel), List.mem_of_getElem? (i := 445) (by decide +kernel), List.mem_of_getElem? (i := 446) (by decide +kernel)⟩
theorem lw_p14 : lw_okq (⟨"PenniesAway", "noCoin", "(I)Z"⟩, 11) := ⟨⟨by decide +kernel, by decide +kernel⟩, List.mem_of_getElem? (i := 20) (by decide +kernel), List.mem_of_getElem? (i := 483) (by decide +kernel), List.mem_of_getElem? (i := 484) (by decide +kernel)⟩
theorem lw_p15 : lw_okq (⟨"PenniesAway", "sendKept", "(I)I"⟩, 11) := ⟨⟨by decide +kernel, by decide +kernel⟩, List.mem_of_getElem? (i := 20) (by decide +kernel), List.mem_of_getElem? (i := 522) (by decide +kernel), List.mem_of_getElem? (i := 523) (by decide +kernel)⟩
def lw_privs_1 : List (MethodName × Nat) := [(⟨"PenniesAway", "found", "(I)I"⟩, 11), (⟨"PenniesAway", "answered", "(I)I"⟩, 11), (⟨"PenniesAway$Tape", "sortOfByte", "(I)I"⟩, 6), (⟨"PenniesAway$Tape", "weighFigures", "()V"⟩, 6), (⟨"PenniesAway$Reader", "readLaw", "(LPenniesAway$Realm;)Z"⟩, 4), (⟨"PenniesAway$Reader", "faulty", "(I)Z"⟩, 4), (⟨"PenniesAway$Reader", "takeNumber", "(II)Z"⟩, 4), (⟨"PenniesAway$Reader", "takeSign", "()Z"⟩, 4), (⟨"PenniesAway$Reader", "readRoads", "(LPenniesAway$Realm;)Z"⟩, 4), (⟨"PenniesAway$Reader", "readRoad", "(LPenniesAway$Realm;)Z"⟩, 4), (⟨"PenniesAway$Reader", "readHolders", "(LPenniesAway$Realm;)Z"⟩, 4), (⟨"PenniesAway$Reader", "readCoins", "(LPenniesAway$Realm;)Z"⟩, 4), (⟨"PenniesAway$Reader", "readCoin", "(LPenniesAway$Realm;)Z"⟩, 4), (⟨"PenniesAway$Reader", "kindOfWord", "()I"⟩, 4), (⟨"PenniesAway", "noCoin", "(I)Z"⟩, 11), (⟨"PenniesAway", "sendKept", "(I)I"⟩, 11)]
theorem lw_r1 : ∀ q ∈ lw_privs_1, lw_okq q := List.forall_mem_cons.mpr ⟨lw_p0, List.forall_mem_cons.mpr ⟨lw_p1, List.forall_mem_cons.mpr ⟨lw_p2, List.forall_mem_cons.mpr ⟨lw_p3, List.forall_mem_cons.mpr ⟨lw_p4, List.forall_mem_cons.mpr ⟨lw_p5, List.forall_mem_cons.mpr ⟨lw_p6, List.forall_mem_cons.mpr ⟨lw_p7, List.forall_mem_cons.mpr ⟨lw_p8, List.forall_mem_cons.mpr ⟨lw_p9, List.forall_mem_cons.mpr ⟨lw_p10, List.forall_mem_cons.mpr ⟨lw_p11, List.forall_mem_cons.mpr ⟨lw_p12, List.forall_mem_cons.mpr ⟨lw_p13, List.forall_mem_cons.mpr ⟨lw_p14, List.forall_mem_cons.mpr ⟨lw_p15, fun _ h => absurd h List.not_mem_nil⟩⟩⟩⟩⟩⟩⟩⟩⟩⟩⟩⟩⟩⟩⟩⟩
theorem lw_p16 : lw_okq (⟨"PenniesAway$Realm", "travel", "(I)V"⟩, 8) := ⟨⟨by decide +kernel, by decide +kernel⟩, List.mem_of_getElem? (i := 148) (by decide +kernel), List.mem_of_getElem? (i := 554) (by decide +kernel), List.mem_of_getElem? (i := 555) (by decide +kernel)⟩
theorem lw_p17 : lw_okq (⟨"PenniesAway$Realm", "slackAtHolder", "(I)I"⟩, 8) := ⟨⟨by decide +kernel, by decide +kernel⟩, List.mem_of_getElem? (i := 148) (by decide +kernel), List.mem_of_getElem? (i := 628) (by decide +kernel), List.mem_of_getElem? (i := 629) (by decide +kernel)⟩
theorem lw_p18 : lw_okq (⟨"PenniesAway$Realm", "mostPressing", "(I)I"⟩, 8) := ⟨⟨by decide +kernel, by decide +kernel⟩, List.mem_of_getElem? (i := 148) (by decide +kernel), List.mem_of_getElem? (i := 640) (by decide +kernel), List.mem_of_getElem? (i := 641) (by decide +kernel)⟩
theorem lw_p19 : lw_okq (⟨"PenniesAway$Carrier", "goOn", "(LPenniesAway$Realm;IIII)V"⟩, 4) := ⟨⟨by decide +kernel, by decide +kernel⟩, List.mem_of_getElem? (i := 104) (by decide +kernel), List.mem_of_getElem? (i := 658) (by decide +kernel), List.mem_of_getElem? (i := 659) (by decide +kernel)⟩
theorem lw_p20 : lw_okq (⟨"PenniesAway$Carrier", "comeHome", "(II)V"⟩, 4) := ⟨⟨by decide +kernel, by decide +kernel⟩, List.mem_of_getElem? (i := 104) (by decide +kernel), List.mem_of_getElem? (i := 663) (by decide +kernel), List.mem_of_getElem? (i := 664) (by decide +kernel)⟩
theorem lw_p21 : lw_okq (⟨"PenniesAway$Realm", "soundsAfter", "(II)Z"⟩, 8) := ⟨⟨by decide +kernel, by decide +kernel⟩, List.mem_of_getElem? (i := 148) (by decide +kernel), List.mem_of_getElem? (i := 699) (by decide +kernel), List.mem_of_getElem? (i := 700) (by decide +kernel)⟩
theorem lw_p22 : lw_okq (⟨"PenniesAway$Asker", "bodyFor", "(I)I"⟩, 6) := ⟨⟨by decide +kernel, by decide +kernel⟩, List.mem_of_getElem? (i := 124) (by decide +kernel), List.mem_of_getElem? (i := 756) (by decide +kernel), List.mem_of_getElem? (i := 757) (by decide +kernel)⟩
theorem lw_p23 : lw_okq (⟨"PenniesAway$Asker", "begin", "(II)I"⟩, 6) := ⟨⟨by decide +kernel, by decide +kernel⟩, List.mem_of_getElem? (i := 124) (by decide +kernel), List.mem_of_getElem? (i := 766) (by decide +kernel), List.mem_of_getElem? (i := 767) (by decide +kernel)⟩
theorem lw_p24 : lw_okq (⟨"PenniesAway$Asker", "note", "(I)V"⟩, 6) := ⟨⟨by decide +kernel, by decide +kernel⟩, List.mem_of_getElem? (i := 124) (by decide +kernel), List.mem_of_getElem? (i := 770) (by decide +kernel), List.mem_of_getElem? (i := 771) (by decide +kernel)⟩
theorem lw_p25 : lw_okq (⟨"PenniesAway", "rowsThere", "()I"⟩, 11) := ⟨⟨by decide +kernel, by decide +kernel⟩, List.mem_of_getElem? (i := 20) (by decide +kernel), List.mem_of_getElem? (i := 788) (by decide +kernel), List.mem_of_getElem? (i := 789) (by decide +kernel)⟩
theorem lw_p26 : lw_okq (⟨"PenniesAwayModel", "finding", "(I)I"⟩, 26) := ⟨⟨by decide +kernel, by decide +kernel⟩, List.mem_of_getElem? (i := 800) (by decide +kernel), List.mem_of_getElem? (i := 899) (by decide +kernel), List.mem_of_getElem? (i := 900) (by decide +kernel)⟩
theorem lw_p27 : lw_okq (⟨"PenniesAwayModel", "begin", "()V"⟩, 26) := ⟨⟨by decide +kernel, by decide +kernel⟩, List.mem_of_getElem? (i := 800) (by decide +kernel), List.mem_of_getElem? (i := 927) (by decide +kernel), List.mem_of_getElem? (i := 928) (by decide +kernel)⟩
theorem lw_p28 : lw_okq (⟨"PenniesAwayModel", "next", "()V"⟩, 26) := ⟨⟨by decide +kernel, by decide +kernel⟩, List.mem_of_getElem? (i := 800) (by decide +kernel), List.mem_of_getElem? (i := 931) (by decide +kernel), List.mem_of_getElem? (i := 932) (by decide +kernel)⟩
theorem lw_p29 : lw_okq (⟨"PenniesAwayModel", "byteAt", "(I)I"⟩, 26) := ⟨⟨by decide +kernel, by decide +kernel⟩, List.mem_of_getElem? (i := 800) (by decide +kernel), List.mem_of_getElem? (i := 935) (by decide +kernel), List.mem_of_getElem? (i := 936) (by decide +kernel)⟩
theorem lw_p30 : lw_okq (⟨"PenniesAwayModel", "name", "()J"⟩, 26) := ⟨⟨by decide +kernel, by decide +kernel⟩, List.mem_of_getElem? (i := 800) (by decide +kernel), List.mem_of_getElem? (i := 946) (by decide +kernel), List.mem_of_getElem? (i := 947) (by decide +kernel)⟩
theorem lw_p31 : lw_okq (⟨"PenniesAwayModel", "must", "(Z)V"⟩, 26) := ⟨⟨by decide +kernel, by decide +kernel⟩, List.mem_of_getElem? (i := 800) (by decide +kernel), List.mem_of_getElem? (i := 951) (by decide +kernel), List.mem_of_getElem? (i := 952) (by decide +kernel)⟩
def lw_privs_2 : List (MethodName × Nat) := [(⟨"PenniesAway$Realm", "travel", "(I)V"⟩, 8), (⟨"PenniesAway$Realm", "slackAtHolder", "(I)I"⟩, 8), (⟨"PenniesAway$Realm", "mostPressing", "(I)I"⟩, 8), (⟨"PenniesAway$Carrier", "goOn", "(LPenniesAway$Realm;IIII)V"⟩, 4), (⟨"PenniesAway$Carrier", "comeHome", "(II)V"⟩, 4), (⟨"PenniesAway$Realm", "soundsAfter", "(II)Z"⟩, 8), (⟨"PenniesAway$Asker", "bodyFor", "(I)I"⟩, 6), (⟨"PenniesAway$Asker", "begin", "(II)I"⟩, 6), (⟨"PenniesAway$Asker", "note", "(I)V"⟩, 6), (⟨"PenniesAway", "rowsThere", "()I"⟩, 11), (⟨"PenniesAwayModel", "finding", "(I)I"⟩, 26), (⟨"PenniesAwayModel", "begin", "()V"⟩, 26), (⟨"PenniesAwayModel", "next", "()V"⟩, 26), (⟨"PenniesAwayModel", "byteAt", "(I)I"⟩, 26), (⟨"PenniesAwayModel", "name", "()J"⟩, 26), (⟨"PenniesAwayModel", "must", "(Z)V"⟩, 26)]
theorem lw_r2 : ∀ q ∈ lw_privs_2, lw_okq q := List.forall_mem_cons.mpr ⟨lw_p16, List.forall_mem_cons.mpr ⟨lw_p17, List.forall_mem_cons.mpr ⟨lw_p18, List.forall_mem_cons.mpr ⟨lw_p19, List.forall_mem_cons.mpr ⟨lw_p20, List.forall_mem_cons.mpr ⟨lw_p21, List.forall_mem_cons.mpr ⟨lw_p22, List.forall_mem_cons.mpr ⟨lw_p23, List.forall_mem_cons.mpr ⟨lw_p24, List.forall_mem_cons.mpr ⟨lw_p25, List.forall_mem_cons.mpr ⟨lw_p26, List.forall_mem_cons.mpr ⟨lw_p27, List.forall_mem_cons.mpr ⟨lw_p28, List.forall_mem_cons.mpr ⟨lw_p29, List.forall_mem_cons.mpr ⟨lw_p30, List.forall_mem_cons.mpr ⟨lw_p31, fun _ h => absurd h List.not_mem_nil⟩⟩⟩⟩⟩⟩⟩⟩⟩⟩⟩⟩⟩⟩⟩⟩
theorem lw_p32 : lw_okq (⟨"PenniesAwayModel", "bad", "(I)V"⟩, 26) := ⟨⟨by decide +kernel, by decide +kernel⟩, List.mem_of_getElem? (i := 800) (by decide +kernel), List.mem_of_getElem? (i := 955) (by decide +kernel), List.mem_of_getElem? (i := 956) (by decide +kernel)⟩
theorem lw_p33 : lw_okq (⟨"PenniesAwayModel", "number", "(II)I"⟩, 26) := ⟨⟨by decide +kernel, by decide +kernel⟩, List.mem_of_getElem? (i := 800) (by decide +kernel), List.mem_of_getElem? (i := 959) (by decide +kernel), List.mem_of_getElem? (i := 960) (by decide +kernel)⟩
theorem lw_p34 : lw_okq (⟨"PenniesAwayModel", "figures", "()I"⟩, 26) := ⟨⟨by decide +kernel, by decide +kernel⟩, List.mem_of_getElem? (i := 800) (by decide +kernel), List.mem_of_getElem? (i := 963) (by decide +kernel), List.mem_of_getElem? (i := 964) (by decide +kernel)⟩
theorem lw_p35 : lw_okq (⟨"PenniesAwayModel", "mustEnd", "()V"⟩, 26) := ⟨⟨by decide +kernel, by decide +kernel⟩, List.mem_of_getElem? (i := 800) (by decide +kernel), List.mem_of_getElem? (i := 967) (by decide +kernel), List.mem_of_getElem? (i := 968) (by decide +kernel)⟩
theorem lw_p36 : lw_okq (⟨"PenniesAwayModel", "readRoad", "()V"⟩, 26) := ⟨⟨by decide +kernel, by decide +kernel⟩, List.mem_of_getElem? (i := 800) (by decide +kernel), List.mem_of_getElem? (i := 972) (by decide +kernel), List.mem_of_getElem? (i := 973) (by decide +kernel)⟩
theorem lw_p37 : lw_okq (⟨"PenniesAwayModel", "begins", "(II)V"⟩, 26) := ⟨⟨by decide +kernel, by decide +kernel⟩, List.mem_of_getElem? (i := 800) (by decide +kernel), List.mem_of_getElem? (i := 976) (by decide +kernel), List.mem_of_getElem? (i := 977) (by decide +kernel)⟩
theorem lw_p38 : lw_okq (⟨"PenniesAwayModel", "readHolder", "()V"⟩, 26) := ⟨⟨by decide +kernel, by decide +kernel⟩, List.mem_of_getElem? (i := 800) (by decide +kernel), List.mem_of_getElem? (i := 981) (by decide +kernel), List.mem_of_getElem? (i := 982) (by decide +kernel)⟩
theorem lw_p39 : lw_okq (⟨"PenniesAwayModel", "readCoin", "()V"⟩, 26) := ⟨⟨by decide +kernel, by decide +kernel⟩, List.mem_of_getElem? (i := 800) (by decide +kernel), List.mem_of_getElem? (i := 986) (by decide +kernel), List.mem_of_getElem? (i := 987) (by decide +kernel)⟩
theorem lw_p40 : lw_okq (⟨"PenniesAwayModel", "layFar", "()V"⟩, 26) := ⟨⟨by decide +kernel, by decide +kernel⟩, List.mem_of_getElem? (i := 800) (by decide +kernel), List.mem_of_getElem? (i := 999) (by decide +kernel), List.mem_of_getElem? (i := 1000) (by decide +kernel)⟩
theorem lw_p41 : lw_okq (⟨"PenniesAwayModel", "isCoin", "(I)Z"⟩, 26) := ⟨⟨by decide +kernel, by decide +kernel⟩, List.mem_of_getElem? (i := 800) (by decide +kernel), List.mem_of_getElem? (i := 1011) (by decide +kernel), List.mem_of_getElem? (i := 1012) (by decide +kernel)⟩
theorem lw_p42 : lw_okq (⟨"PenniesAwayModel", "isHolder", "(I)Z"⟩, 26) := ⟨⟨by decide +kernel, by decide +kernel⟩, List.mem_of_getElem? (i := 800) (by decide +kernel), List.mem_of_getElem? (i := 1015) (by decide +kernel), List.mem_of_getElem? (i := 1016) (by decide +kernel)⟩
theorem lw_p43 : lw_okq (⟨"PenniesAwayModel", "of", "(II)I"⟩, 26) := ⟨⟨by decide +kernel, by decide +kernel⟩, List.mem_of_getElem? (i := 800) (by decide +kernel), List.mem_of_getElem? (i := 1019) (by decide +kernel), List.mem_of_getElem? (i := 1020) (by decide +kernel)⟩
theorem lw_p44 : lw_okq (⟨"PenniesAwayModel", "townOf", "(I)I"⟩, 26) := ⟨⟨by decide +kernel, by decide +kernel⟩, List.mem_of_getElem? (i := 800) (by decide +kernel), List.mem_of_getElem? (i := 1023) (by decide +kernel), List.mem_of_getElem? (i := 1024) (by decide +kernel)⟩
theorem lw_p45 : lw_okq (⟨"PenniesAwayModel", "keep", "()V"⟩, 26) := ⟨⟨by decide +kernel, by decide +kernel⟩, List.mem_of_getElem? (i := 800) (by decide +kernel), List.mem_of_getElem? (i := 1028) (by decide +kernel), List.mem_of_getElem? (i := 1029) (by decide +kernel)⟩
theorem lw_p46 : lw_okq (⟨"PenniesAwayModel", "becomes", "(III)V"⟩, 26) := ⟨⟨by decide +kernel, by decide +kernel⟩, List.mem_of_getElem? (i := 800) (by decide +kernel), List.mem_of_getElem? (i := 1032) (by decide +kernel), List.mem_of_getElem? (i := 1033) (by decide +kernel)⟩
theorem lw_p47 : lw_okq (⟨"PenniesAwayModel", "maySend", "(I)Z"⟩, 26) := ⟨⟨by decide +kernel, by decide +kernel⟩, List.mem_of_getElem? (i := 800) (by decide +kernel), List.mem_of_getElem? (i := 1040) (by decide +kernel), List.mem_of_getElem? (i := 1041) (by decide +kernel)⟩
def lw_privs_3 : List (MethodName × Nat) := [(⟨"PenniesAwayModel", "bad", "(I)V"⟩, 26), (⟨"PenniesAwayModel", "number", "(II)I"⟩, 26), (⟨"PenniesAwayModel", "figures", "()I"⟩, 26), (⟨"PenniesAwayModel", "mustEnd", "()V"⟩, 26), (⟨"PenniesAwayModel", "readRoad", "()V"⟩, 26), (⟨"PenniesAwayModel", "begins", "(II)V"⟩, 26), (⟨"PenniesAwayModel", "readHolder", "()V"⟩, 26), (⟨"PenniesAwayModel", "readCoin", "()V"⟩, 26), (⟨"PenniesAwayModel", "layFar", "()V"⟩, 26), (⟨"PenniesAwayModel", "isCoin", "(I)Z"⟩, 26), (⟨"PenniesAwayModel", "isHolder", "(I)Z"⟩, 26), (⟨"PenniesAwayModel", "of", "(II)I"⟩, 26), (⟨"PenniesAwayModel", "townOf", "(I)I"⟩, 26), (⟨"PenniesAwayModel", "keep", "()V"⟩, 26), (⟨"PenniesAwayModel", "becomes", "(III)V"⟩, 26), (⟨"PenniesAwayModel", "maySend", "(I)Z"⟩, 26)]
theorem lw_r3 : ∀ q ∈ lw_privs_3, lw_okq q := List.forall_mem_cons.mpr ⟨lw_p32, List.forall_mem_cons.mpr ⟨lw_p33, List.forall_mem_cons.mpr ⟨lw_p34, List.forall_mem_cons.mpr ⟨lw_p35, List.forall_mem_cons.mpr ⟨lw_p36, List.forall_mem_cons.mpr ⟨lw_p37, List.forall_mem_cons.mpr ⟨lw_p38, List.forall_mem_cons.mpr ⟨lw_p39, List.forall_mem_cons.mpr ⟨lw_p40, List.forall_mem_cons.mpr ⟨lw_p41, List.forall_mem_cons.mpr ⟨lw_p42, List.forall_mem_cons.mpr ⟨lw_p43, List.forall_mem_cons.mpr ⟨lw_p44, List.forall_mem_cons.mpr ⟨lw_p45, List.forall_mem_cons.mpr ⟨lw_p46, List.forall_mem_cons.mpr ⟨lw_p47, fun _ h => absurd h List.not_mem_nil⟩⟩⟩⟩⟩⟩⟩⟩⟩⟩⟩⟩⟩⟩⟩⟩
theorem lw_p48 : lw_okq (⟨"PenniesAwayModel", "farOf", "(II)I"⟩, 26) := ⟨⟨by decide +kernel, by decide +kernel⟩, List.mem_of_getElem? (i := 800) (by decide +kernel), List.mem_of_getElem? (i := 1044) (by decide +kernel), List.mem_of_getElem? (i := 1045) (by decide +kernel)⟩
theorem lw_p49 : lw_okq (⟨"PenniesAwayModel", "sends", "(I)V"⟩, 26) := ⟨⟨by decide +kernel, by decide +kernel⟩, List.mem_of_getElem? (i := 800) (by decide +kernel), List.mem_of_getElem? (i := 1048) (by decide +kernel), List.mem_of_getElem? (i := 1049) (by decide +kernel)⟩
theorem lw_p50 : lw_okq (⟨"PenniesAwayModel", "goesOn", "(I)V"⟩, 26) := ⟨⟨by decide +kernel, by decide +kernel⟩, List.mem_of_getElem? (i := 800) (by decide +kernel), List.mem_of_getElem? (i := 1062) (by decide +kernel), List.mem_of_getElem? (i := 1063) (by decide +kernel)⟩
theorem lw_p51 : lw_okq (⟨"PenniesAwayModel", "arrives", "(I)V"⟩, 26) := ⟨⟨by decide +kernel, by decide +kernel⟩, List.mem_of_getElem? (i := 800) (by decide +kernel), List.mem_of_getElem? (i := 1066) (by decide +kernel), List.mem_of_getElem? (i := 1067) (by decide +kernel)⟩
theorem lw_p52 : lw_okq (⟨"PenniesAwayModel", "spanOf", "(I)I"⟩, 26) := ⟨⟨by decide +kernel, by decide +kernel⟩, List.mem_of_getElem? (i := 800) (by decide +kernel), List.mem_of_getElem? (i := 1070) (by decide +kernel), List.mem_of_getElem? (i := 1071) (by decide +kernel)⟩
theorem lw_p53 : lw_okq (⟨"PenniesAwayModel", "slackOf", "(I)I"⟩, 26) := ⟨⟨by decide +kernel, by decide +kernel⟩, List.mem_of_getElem? (i := 800) (by decide +kernel), List.mem_of_getElem? (i := 1090) (by decide +kernel), List.mem_of_getElem? (i := 1091) (by decide +kernel)⟩
theorem lw_p54 : lw_okq (⟨"PenniesAwayModel", "slackBy", "(II)I"⟩, 26) := ⟨⟨by decide +kernel, by decide +kernel⟩, List.mem_of_getElem? (i := 800) (by decide +kernel), List.mem_of_getElem? (i := 1094) (by decide +kernel), List.mem_of_getElem? (i := 1095) (by decide +kernel)⟩
theorem lw_p55 : lw_okq (⟨"PenniesAwayModel", "worthOf", "(I)I"⟩, 26) := ⟨⟨by decide +kernel, by decide +kernel⟩, List.mem_of_getElem? (i := 800) (by decide +kernel), List.mem_of_getElem? (i := 1098) (by decide +kernel), List.mem_of_getElem? (i := 1099) (by decide +kernel)⟩
theorem lw_p56 : lw_okq (⟨"PenniesAwayModel", "canBeSaved", "(I)Z"⟩, 26) := ⟨⟨by decide +kernel, by decide +kernel⟩, List.mem_of_getElem? (i := 800) (by decide +kernel), List.mem_of_getElem? (i := 1115) (by decide +kernel), List.mem_of_getElem? (i := 1116) (by decide +kernel)⟩
theorem lw_p57 : lw_okq (⟨"PenniesAwayModel", "layTour", "(I)I"⟩, 26) := ⟨⟨by decide +kernel, by decide +kernel⟩, List.mem_of_getElem? (i := 800) (by decide +kernel), List.mem_of_getElem? (i := 1127) (by decide +kernel), List.mem_of_getElem? (i := 1128) (by decide +kernel)⟩
theorem lw_p58 : lw_okq (⟨"PenniesAwayModel", "daysOf", "(I)I"⟩, 26) := ⟨⟨by decide +kernel, by decide +kernel⟩, List.mem_of_getElem? (i := 800) (by decide +kernel), List.mem_of_getElem? (i := 1131) (by decide +kernel), List.mem_of_getElem? (i := 1132) (by decide +kernel)⟩
theorem lw_p59 : lw_okq (⟨"PenniesAwayModel", "nextOrder", "(I)Z"⟩, 26) := ⟨⟨by decide +kernel, by decide +kernel⟩, List.mem_of_getElem? (i := 800) (by decide +kernel), List.mem_of_getElem? (i := 1135) (by decide +kernel), List.mem_of_getElem? (i := 1136) (by decide +kernel)⟩
theorem lw_p60 : lw_okq (⟨"PenniesAwayModel", "savedBy", "(II)I"⟩, 26) := ⟨⟨by decide +kernel, by decide +kernel⟩, List.mem_of_getElem? (i := 800) (by decide +kernel), List.mem_of_getElem? (i := 1139) (by decide +kernel), List.mem_of_getElem? (i := 1140) (by decide +kernel)⟩
theorem lw_p61 : lw_okq (⟨"PenniesAwayModel", "lateWith", "(I)I"⟩, 26) := ⟨⟨by decide +kernel, by decide +kernel⟩, List.mem_of_getElem? (i := 800) (by decide +kernel), List.mem_of_getElem? (i := 1147) (by decide +kernel), List.mem_of_getElem? (i := 1148) (by decide +kernel)⟩
theorem lw_p62 : lw_okq (⟨"PenniesAwayModel", "sizeOf", "(I)I"⟩, 26) := ⟨⟨by decide +kernel, by decide +kernel⟩, List.mem_of_getElem? (i := 800) (by decide +kernel), List.mem_of_getElem? (i := 1187) (by decide +kernel), List.mem_of_getElem? (i := 1188) (by decide +kernel)⟩
theorem lw_p63 : lw_okq (⟨"PenniesAwayModel", "forgedSize", "(I)I"⟩, 26) := ⟨⟨by decide +kernel, by decide +kernel⟩, List.mem_of_getElem? (i := 800) (by decide +kernel), List.mem_of_getElem? (i := 1191) (by decide +kernel), List.mem_of_getElem? (i := 1192) (by decide +kernel)⟩
def lw_privs_4 : List (MethodName × Nat) := [(⟨"PenniesAwayModel", "farOf", "(II)I"⟩, 26), (⟨"PenniesAwayModel", "sends", "(I)V"⟩, 26), (⟨"PenniesAwayModel", "goesOn", "(I)V"⟩, 26), (⟨"PenniesAwayModel", "arrives", "(I)V"⟩, 26), (⟨"PenniesAwayModel", "spanOf", "(I)I"⟩, 26), (⟨"PenniesAwayModel", "slackOf", "(I)I"⟩, 26), (⟨"PenniesAwayModel", "slackBy", "(II)I"⟩, 26), (⟨"PenniesAwayModel", "worthOf", "(I)I"⟩, 26), (⟨"PenniesAwayModel", "canBeSaved", "(I)Z"⟩, 26), (⟨"PenniesAwayModel", "layTour", "(I)I"⟩, 26), (⟨"PenniesAwayModel", "daysOf", "(I)I"⟩, 26), (⟨"PenniesAwayModel", "nextOrder", "(I)Z"⟩, 26), (⟨"PenniesAwayModel", "savedBy", "(II)I"⟩, 26), (⟨"PenniesAwayModel", "lateWith", "(I)I"⟩, 26), (⟨"PenniesAwayModel", "sizeOf", "(I)I"⟩, 26), (⟨"PenniesAwayModel", "forgedSize", "(I)I"⟩, 26)]
theorem lw_r4 : ∀ q ∈ lw_privs_4, lw_okq q := List.forall_mem_cons.mpr ⟨lw_p48, List.forall_mem_cons.mpr ⟨lw_p49, List.forall_mem_cons.mpr ⟨lw_p50, List.forall_mem_cons.mpr ⟨lw_p51, List.forall_mem_cons.mpr ⟨lw_p52, List.forall_mem_cons.mpr ⟨lw_p53, List.forall_mem_cons.mpr ⟨lw_p54, List.forall_mem_cons.mpr ⟨lw_p55, List.forall_mem_cons.mpr ⟨lw_p56, List.forall_mem_cons.mpr ⟨lw_p57, List.forall_mem_cons.mpr ⟨lw_p58, List.forall_mem_cons.mpr ⟨lw_p59, List.forall_mem_cons.mpr ⟨lw_p60, List.forall_mem_cons.mpr ⟨lw_p61, List.forall_mem_cons.mpr ⟨lw_p62, List.forall_mem_cons.mpr ⟨lw_p63, fun _ h => absurd h List.not_mem_nil⟩⟩⟩⟩⟩⟩⟩⟩⟩⟩⟩⟩⟩⟩⟩⟩
theorem lw_p64 : lw_okq (⟨"PenniesAwayModel", "began", "(I)V"⟩, 26) := ⟨⟨by decide +kernel, by decide +kernel⟩, List.mem_of_getElem? (i := 800) (by decide +kernel), List.mem_of_getElem? (i := 1195) (by decide +kernel), List.mem_of_getElem? (i := 1196) (by decide +kernel)⟩
theorem lw_p65 : lw_okq (⟨"PenniesAwayModel", "plainSize", "(I)I"⟩, 26) := ⟨⟨by decide +kernel, by decide +kernel⟩, List.mem_of_getElem? (i := 800) (by decide +kernel), List.mem_of_getElem? (i := 1199) (by decide +kernel), List.mem_of_getElem? (i := 1200) (by decide +kernel)⟩
theorem lw_p66 : lw_okq (⟨"PenniesAwayModel", "markOf", "(I)I"⟩, 26) := ⟨⟨by decide +kernel, by decide +kernel⟩, List.mem_of_getElem? (i := 800) (by decide +kernel), List.mem_of_getElem? (i := 1203) (by decide +kernel), List.mem_of_getElem? (i := 1204) (by decide +kernel)⟩
def lw_privs_5 : List (MethodName × Nat) := [(⟨"PenniesAwayModel", "began", "(I)V"⟩, 26), (⟨"PenniesAwayModel", "plainSize", "(I)I"⟩, 26), (⟨"PenniesAwayModel", "markOf", "(I)I"⟩, 26)]
theorem lw_r5 : ∀ q ∈ lw_privs_5, lw_okq q := List.forall_mem_cons.mpr ⟨lw_p64, List.forall_mem_cons.mpr ⟨lw_p65, List.forall_mem_cons.mpr ⟨lw_p66, fun _ h => absurd h List.not_mem_nil⟩⟩⟩
def lw_privs : List (MethodName × Nat) := lw_privs_1 ++ (lw_privs_2 ++ (lw_privs_3 ++ (lw_privs_4 ++ (lw_privs_5))))
def lw_tbl : List Cond := k2_sels lw_privs ++ tables_1
theorem lw_privs_ok : ∀ q ∈ lw_privs, lw_okq q := by
  show ∀ q ∈ lw_privs_1 ++ (lw_privs_2 ++ (lw_privs_3 ++ (lw_privs_4 ++ (lw_privs_5)))), lw_okq q
  exact List.forall_mem_append.mpr ⟨lw_r1, List.forall_mem_append.mpr ⟨lw_r2, List.forall_mem_append.mpr ⟨lw_r3, List.forall_mem_append.mpr ⟨lw_r4, lw_r5⟩⟩⟩⟩
-- ===== end of PART A; then your names; then what follows =====
end
section
/-! ===== BEGIN words of one list among another's, by their places ===== -/
theorem goodIn_r {big : List Cond} (ws : List Cond) (ps : List Nat) (hp : ws = ps.filterMap (fun i => big[i]?)) (h : ws.all goodWord = true) : GoodIn big ws := by
  intro w hw
  have h1 := List.all_eq_true.mp h w hw
  rw [hp] at hw
  obtain ⟨i, -, hi⟩ := List.mem_filterMap.mp hw
  have hm : w ∈ big := by first | exact List.mem_of_getElem? hi | exact List.getElem?_mem hi
  exact ⟨hm, good_of_word h1⟩
theorem goodIn_app {big a b : List Cond} (ha : GoodIn big a) (hb : GoodIn big b) : GoodIn big (a ++ b) := fun w h => (List.mem_append.mp h).elim (ha w) (hb w)
theorem goodIn_ca {big a b : List Cond} {c : Cond} (ha : GoodIn big (c :: a)) (hb : GoodIn big b) : GoodIn big (c :: (a ++ b)) := fun w h => (List.mem_cons.mp h).elim (fun e => ha w (List.mem_cons.mpr (Or.inl e))) (fun h => (List.mem_append.mp h).elim (fun h => ha w (List.mem_cons.mpr (Or.inr h))) (hb w))
theorem goodIn_sub {big ws : List Cond} (hm : ∀ w ∈ ws, w ∈ big) (h : ws.all goodWord = true) : GoodIn big ws := fun w hw => ⟨hm w hw, good_of_word (List.all_eq_true.mp h w hw)⟩
/-! ===== END ===== -/


/-! ===== BEGIN printed: names, fields, word lists, decode rows ===== -/
def RX0 : String := "PenniesAway$Acts"
def TX0 : u_T := fun k => match k with
  | 0 => ("PenniesAway$Acts", "before", "[[I", true)
  | 1 => ("PenniesAway$Acts", "next", "I", false)
  | _ => ("PenniesAway$Acts", "kept", "I", false)
def tyX0 : Nat → FieldType := fun k => match k with
  | 0 => .array (.array .int)
  | 1 => .int
  | _ => .int
abbrev wsX00 : List Cond := u_ws RX0 TX0 3
theorem nmX0 : ∀ a, a < 3 → ∀ b, b < 3 → a ≠ b → (TX0 a).2.1 ≠ (TX0 b).2.1 := by decide +kernel
theorem tyX0_ok : ∀ k, k < 3 → parseFieldDescriptor (TX0 k).2.2.1 = some (tyX0 k) := by decide +kernel
abbrev cX0_init : ByteArray := prog_2_method_1_code
def yX0_init : MethodName := ⟨RX0, "<init>", "()V"⟩
abbrev cX0_keep : ByteArray := prog_2_method_2_code
def yX0_keep : MethodName := ⟨RX0, "keep", "([I)V"⟩
abbrev cX0_takeBack : ByteArray := prog_2_method_3_code
def yX0_takeBack : MethodName := ⟨RX0, "takeBack", "([I)V"⟩
abbrev cX0_forgetAll : ByteArray := prog_2_method_4_code
def yX0_forgetAll : MethodName := ⟨RX0, "forgetAll", "()V"⟩
def RX1 : String := "PenniesAway$Asker"
def TX1 : u_T := fun k => match k with
  | 0 => ("PenniesAway$Asker", "notes", "[I", true)
  | 1 => ("PenniesAway$Asker", "begun", "I", false)
  | 2 => ("PenniesAway$Asker", "number", "I", false)
  | 3 => ("PenniesAway$Asker", "kindAsked", "I", false)
  | 4 => ("PenniesAway$Asker", "age", "I", false)
  | _ => ("PenniesAway$Asker", "span", "I", false)
def tyX1 : Nat → FieldType := fun k => match k with
  | 0 => .array .int
  | 1 => .int
  | 2 => .int
  | 3 => .int
  | 4 => .int
  | _ => .int
abbrev wsX10 : List Cond := u_ws RX1 TX1 6
theorem nmX1 : ∀ a, a < 6 → ∀ b, b < 6 → a ≠ b → (TX1 a).2.1 ≠ (TX1 b).2.1 := by decide +kernel
theorem tyX1_ok : ∀ k, k < 6 → parseFieldDescriptor (TX1 k).2.2.1 = some (tyX1 k) := by decide +kernel
abbrev cX1_init : ByteArray := prog_3_method_1_code
def yX1_init : MethodName := ⟨RX1, "<init>", "()V"⟩
abbrev cX1_answer : ByteArray := prog_3_method_2_code
def yX1_answer : MethodName := ⟨RX1, "answer", "(LPenniesAway$Realm;II)I"⟩
abbrev cX1_noted : ByteArray := prog_3_method_3_code
def yX1_noted : MethodName := ⟨RX1, "noted", "(I)I"⟩
abbrev cX1_bodyFor : ByteArray := prog_3_method_4_code
def yX1_bodyFor : MethodName := ⟨RX1, "bodyFor", "(I)I"⟩
abbrev cX1_begin : ByteArray := prog_3_method_5_code
def yX1_begin : MethodName := ⟨RX1, "begin", "(II)I"⟩
abbrev cX1_note : ByteArray := prog_3_method_6_code
def yX1_note : MethodName := ⟨RX1, "note", "(I)V"⟩
def RX2 : String := "PenniesAway$Carrier"
def TX2 : u_T := fun k => match k with
  | 0 => ("PenniesAway$Carrier", "order", "[I", true)
  | 1 => ("PenniesAway$Carrier", "path", "[I", true)
  | 2 => ("PenniesAway$Carrier", "stops", "I", false)
  | _ => ("PenniesAway$Carrier", "fewest", "I", false)
def tyX2 : Nat → FieldType := fun k => match k with
  | 0 => .array .int
  | 1 => .array .int
  | 2 => .int
  | _ => .int
abbrev wsX20 : List Cond := u_ws RX2 TX2 4
theorem nmX2 : ∀ a, a < 4 → ∀ b, b < 4 → a ≠ b → (TX2 a).2.1 ≠ (TX2 b).2.1 := by decide +kernel
theorem tyX2_ok : ∀ k, k < 4 → parseFieldDescriptor (TX2 k).2.2.1 = some (tyX2 k) := by decide +kernel
abbrev cX2_init : ByteArray := prog_4_method_1_code
def yX2_init : MethodName := ⟨RX2, "<init>", "()V"⟩
abbrev cX2_plan : ByteArray := prog_4_method_2_code
def yX2_plan : MethodName := ⟨RX2, "plan", "(LPenniesAway$Realm;I)I"⟩
abbrev cX2_stop : ByteArray := prog_4_method_3_code
def yX2_stop : MethodName := ⟨RX2, "stop", "(I)I"⟩
abbrev cX2_goOn : ByteArray := prog_4_method_4_code
def yX2_goOn : MethodName := ⟨RX2, "goOn", "(LPenniesAway$Realm;IIII)V"⟩
abbrev cX2_comeHome : ByteArray := prog_4_method_5_code
def yX2_comeHome : MethodName := ⟨RX2, "comeHome", "(II)V"⟩
def RX3 : String := "PenniesAway$Kinds"
def TX3 : u_T := fun k => match k with
  | _ => ("", "", "", false)
def tyX3 : Nat → FieldType := fun k => match k with
  | _ => .int
abbrev wsX30 : List Cond := u_ws RX3 TX3 0
theorem nmX3 : ∀ a, a < 0 → ∀ b, b < 0 → a ≠ b → (TX3 a).2.1 ≠ (TX3 b).2.1 := by decide +kernel
theorem tyX3_ok : ∀ k, k < 0 → parseFieldDescriptor (TX3 k).2.2.1 = some (tyX3 k) := by decide +kernel
abbrev cX3_nextOf : ByteArray := prog_5_method_2_code
def yX3_nextOf : MethodName := ⟨RX3, "nextOf", "(I)I"⟩
abbrev cX3_isOne : ByteArray := prog_5_method_3_code
def yX3_isOne : MethodName := ⟨RX3, "isOne", "(II)Z"⟩
def RX4 : String := "PenniesAway$Reader"
def TX4 : u_T := fun k => match k with
  | 0 => ("PenniesAway$Reader", "text", "LPenniesAway$Tape;", true)
  | 1 => ("PenniesAway$Reader", "taken", "I", false)
  | 2 => ("PenniesAway$Reader", "faultNumber", "I", false)
  | _ => ("PenniesAway$Reader", "faultPlace", "I", false)
def tyX4 : Nat → FieldType := fun k => match k with
  | 0 => .object "PenniesAway$Tape"
  | 1 => .int
  | 2 => .int
  | _ => .int
abbrev wsX40 : List Cond := u_ws RX4 TX4 4
theorem nmX4 : ∀ a, a < 4 → ∀ b, b < 4 → a ≠ b → (TX4 a).2.1 ≠ (TX4 b).2.1 := by decide +kernel
theorem tyX4_ok : ∀ k, k < 4 → parseFieldDescriptor (TX4 k).2.2.1 = some (tyX4 k) := by decide +kernel
abbrev cX4_init : ByteArray := prog_6_method_1_code
def yX4_init : MethodName := ⟨RX4, "<init>", "()V"⟩
abbrev cX4_read : ByteArray := prog_6_method_2_code
def yX4_read : MethodName := ⟨RX4, "read", "(LPenniesAway$Realm;)Z"⟩
abbrev cX4_readLaw : ByteArray := prog_6_method_3_code
def yX4_readLaw : MethodName := ⟨RX4, "readLaw", "(LPenniesAway$Realm;)Z"⟩
abbrev cX4_readRoads : ByteArray := prog_6_method_4_code
def yX4_readRoads : MethodName := ⟨RX4, "readRoads", "(LPenniesAway$Realm;)Z"⟩
abbrev cX4_readRoad : ByteArray := prog_6_method_5_code
def yX4_readRoad : MethodName := ⟨RX4, "readRoad", "(LPenniesAway$Realm;)Z"⟩
abbrev cX4_readHolders : ByteArray := prog_6_method_6_code
def yX4_readHolders : MethodName := ⟨RX4, "readHolders", "(LPenniesAway$Realm;)Z"⟩
abbrev cX4_readCoins : ByteArray := prog_6_method_7_code
def yX4_readCoins : MethodName := ⟨RX4, "readCoins", "(LPenniesAway$Realm;)Z"⟩
abbrev cX4_readCoin : ByteArray := prog_6_method_8_code
def yX4_readCoin : MethodName := ⟨RX4, "readCoin", "(LPenniesAway$Realm;)Z"⟩
abbrev cX4_kindOfWord : ByteArray := prog_6_method_9_code
def yX4_kindOfWord : MethodName := ⟨RX4, "kindOfWord", "()I"⟩
abbrev cX4_takeNumber : ByteArray := prog_6_method_10_code
def yX4_takeNumber : MethodName := ⟨RX4, "takeNumber", "(II)Z"⟩
abbrev cX4_takeSign : ByteArray := prog_6_method_11_code
def yX4_takeSign : MethodName := ⟨RX4, "takeSign", "()Z"⟩
abbrev cX4_faulty : ByteArray := prog_6_method_12_code
def yX4_faulty : MethodName := ⟨RX4, "faulty", "(I)Z"⟩
def RX5 : String := "PenniesAway$Realm"
def TX5 : u_T := fun k => match k with
  | 0 => ("PenniesAway$Realm", "ways", "[I", true)
  | 1 => ("PenniesAway$Realm", "towns", "[I", true)
  | 2 => ("PenniesAway$Realm", "kinds", "[I", true)
  | 3 => ("PenniesAway$Realm", "changing", "[I", true)
  | 4 => ("PenniesAway$Realm", "told", "Z", false)
  | 5 => ("PenniesAway$Realm", "leave", "I", false)
  | 6 => ("PenniesAway$Realm", "holders", "I", false)
  | _ => ("PenniesAway$Realm", "coins", "I", false)
def tyX5 : Nat → FieldType := fun k => match k with
  | 0 => .array .int
  | 1 => .array .int
  | 2 => .array .int
  | 3 => .array .int
  | 4 => .boolean
  | 5 => .int
  | 6 => .int
  | _ => .int
abbrev wsX50 : List Cond := u_ws RX5 TX5 8
theorem nmX5 : ∀ a, a < 8 → ∀ b, b < 8 → a ≠ b → (TX5 a).2.1 ≠ (TX5 b).2.1 := by decide +kernel
theorem tyX5_ok : ∀ k, k < 8 → parseFieldDescriptor (TX5 k).2.2.1 = some (tyX5 k) := by decide +kernel
abbrev cX5_init : ByteArray := prog_7_method_1_code
def yX5_init : MethodName := ⟨RX5, "<init>", "()V"⟩
abbrev cX5_clear : ByteArray := prog_7_method_2_code
def yX5_clear : MethodName := ⟨RX5, "clear", "()V"⟩
abbrev cX5_takeFrom : ByteArray := prog_7_method_3_code
def yX5_takeFrom : MethodName := ⟨RX5, "takeFrom", "(LPenniesAway$Realm;)V"⟩
abbrev cX5_addRoad : ByteArray := prog_7_method_4_code
def yX5_addRoad : MethodName := ⟨RX5, "addRoad", "(III)V"⟩
abbrev cX5_addHolder : ByteArray := prog_7_method_5_code
def yX5_addHolder : MethodName := ⟨RX5, "addHolder", "(I)V"⟩
abbrev cX5_addCoin : ByteArray := prog_7_method_6_code
def yX5_addCoin : MethodName := ⟨RX5, "addCoin", "(III)V"⟩
abbrev cX5_shortenWays : ByteArray := prog_7_method_7_code
def yX5_shortenWays : MethodName := ⟨RX5, "shortenWays", "()V"⟩
abbrev cX5_distance : ByteArray := prog_7_method_8_code
def yX5_distance : MethodName := ⟨RX5, "distance", "(II)I"⟩
abbrev cX5_about : ByteArray := prog_7_method_9_code
def yX5_about : MethodName := ⟨RX5, "about", "(II)I"⟩
abbrev cX5_put : ByteArray := prog_7_method_10_code
def yX5_put : MethodName := ⟨RX5, "put", "(III)V"⟩
abbrev cX5_today : ByteArray := prog_7_method_11_code
def yX5_today : MethodName := ⟨RX5, "today", "()I"⟩
abbrev cX5_townOf : ByteArray := prog_7_method_12_code
def yX5_townOf : MethodName := ⟨RX5, "townOf", "(I)I"⟩
abbrev cX5_withHolder : ByteArray := prog_7_method_13_code
def yX5_withHolder : MethodName := ⟨RX5, "withHolder", "(I)Z"⟩
abbrev cX5_underWay : ByteArray := prog_7_method_14_code
def yX5_underWay : MethodName := ⟨RX5, "underWay", "(I)Z"⟩
abbrev cX5_forged : ByteArray := prog_7_method_15_code
def yX5_forged : MethodName := ⟨RX5, "forged", "(I)Z"⟩
abbrev cX5_dumb : ByteArray := prog_7_method_16_code
def yX5_dumb : MethodName := ⟨RX5, "dumb", "(I)Z"⟩
abbrev cX5_howMany : ByteArray := prog_7_method_17_code
def yX5_howMany : MethodName := ⟨RX5, "howMany", "(II)I"⟩
abbrev cX5_canGoHome : ByteArray := prog_7_method_18_code
def yX5_canGoHome : MethodName := ⟨RX5, "canGoHome", "(I)Z"⟩
abbrev cX5_startHome : ByteArray := prog_7_method_19_code
def yX5_startHome : MethodName := ⟨RX5, "startHome", "(I)I"⟩
abbrev cX5_liveDay : ByteArray := prog_7_method_20_code
def yX5_liveDay : MethodName := ⟨RX5, "liveDay", "()I"⟩
abbrev cX5_travel : ByteArray := prog_7_method_21_code
def yX5_travel : MethodName := ⟨RX5, "travel", "(I)V"⟩
abbrev cX5_holdUp : ByteArray := prog_7_method_22_code
def yX5_holdUp : MethodName := ⟨RX5, "holdUp", "(I)I"⟩
abbrev cX5_spanOf : ByteArray := prog_7_method_23_code
def yX5_spanOf : MethodName := ⟨RX5, "spanOf", "(I)I"⟩
abbrev cX5_slackOf : ByteArray := prog_7_method_24_code
def yX5_slackOf : MethodName := ⟨RX5, "slackOf", "(I)I"⟩
abbrev cX5_slackWithMint : ByteArray := prog_7_method_25_code
def yX5_slackWithMint : MethodName := ⟨RX5, "slackWithMint", "(II)I"⟩
abbrev cX5_isLate : ByteArray := prog_7_method_26_code
def yX5_isLate : MethodName := ⟨RX5, "isLate", "(I)Z"⟩
abbrev cX5_worthOf : ByteArray := prog_7_method_27_code
def yX5_worthOf : MethodName := ⟨RX5, "worthOf", "(I)I"⟩
abbrev cX5_lateCoins : ByteArray := prog_7_method_28_code
def yX5_lateCoins : MethodName := ⟨RX5, "lateCoins", "()I"⟩
abbrev cX5_slackAtHolder : ByteArray := prog_7_method_29_code
def yX5_slackAtHolder : MethodName := ⟨RX5, "slackAtHolder", "(I)I"⟩
abbrev cX5_coinsToGo : ByteArray := prog_7_method_30_code
def yX5_coinsToGo : MethodName := ⟨RX5, "coinsToGo", "(I)I"⟩
abbrev cX5_coinsForMessengers : ByteArray := prog_7_method_31_code
def yX5_coinsForMessengers : MethodName := ⟨RX5, "coinsForMessengers", "(I)I"⟩
abbrev cX5_mostPressing : ByteArray := prog_7_method_32_code
def yX5_mostPressing : MethodName := ⟨RX5, "mostPressing", "(I)I"⟩
abbrev cX5_savedByTour : ByteArray := prog_7_method_33_code
def yX5_savedByTour : MethodName := ⟨RX5, "savedByTour", "(II)I"⟩
abbrev cX5_bestSecondMint : ByteArray := prog_7_method_34_code
def yX5_bestSecondMint : MethodName := ⟨RX5, "bestSecondMint", "()I"⟩
abbrev cX5_lateWithMint : ByteArray := prog_7_method_35_code
def yX5_lateWithMint : MethodName := ⟨RX5, "lateWithMint", "(I)I"⟩
abbrev cX5_soundingIn : ByteArray := prog_7_method_36_code
def yX5_soundingIn : MethodName := ⟨RX5, "soundingIn", "(II)I"⟩
abbrev cX5_soundsAfter : ByteArray := prog_7_method_37_code
def yX5_soundsAfter : MethodName := ⟨RX5, "soundsAfter", "(II)Z"⟩
def RX6 : String := "PenniesAway$Row"
def TX6 : u_T := fun k => match k with
  | 0 => ("PenniesAway$Row", "items", "[I", true)
  | 1 => ("PenniesAway$Row", "lane", "I", false)
  | _ => ("PenniesAway$Row", "size", "I", false)
def tyX6 : Nat → FieldType := fun k => match k with
  | 0 => .array .int
  | 1 => .int
  | _ => .int
abbrev wsX60 : List Cond := u_ws RX6 TX6 3
theorem nmX6 : ∀ a, a < 3 → ∀ b, b < 3 → a ≠ b → (TX6 a).2.1 ≠ (TX6 b).2.1 := by decide +kernel
theorem tyX6_ok : ∀ k, k < 3 → parseFieldDescriptor (TX6 k).2.2.1 = some (tyX6 k) := by decide +kernel
abbrev cX6_init : ByteArray := prog_8_method_1_code
def yX6_init : MethodName := ⟨RX6, "<init>", "()V"⟩
abbrev cX6_missing : ByteArray := prog_8_method_2_code
def yX6_missing : MethodName := ⟨RX6, "missing", "()Z"⟩
abbrev cX6_lay : ByteArray := prog_8_method_3_code
def yX6_lay : MethodName := ⟨RX6, "lay", "(II)V"⟩
abbrev cX6_takeAway : ByteArray := prog_8_method_4_code
def yX6_takeAway : MethodName := ⟨RX6, "takeAway", "()V"⟩
abbrev cX6_holds : ByteArray := prog_8_method_5_code
def yX6_holds : MethodName := ⟨RX6, "holds", "(II)Z"⟩
abbrev cX6_put : ByteArray := prog_8_method_6_code
def yX6_put : MethodName := ⟨RX6, "put", "(II)I"⟩
def RX7 : String := "PenniesAway$Tape"
def TX7 : u_T := fun k => match k with
  | 0 => ("PenniesAway$Tape", "bytes", "[B", true)
  | 1 => ("PenniesAway$Tape", "length", "I", false)
  | 2 => ("PenniesAway$Tape", "sort", "I", false)
  | 3 => ("PenniesAway$Tape", "start", "I", false)
  | 4 => ("PenniesAway$Tape", "number", "I", false)
  | _ => ("PenniesAway$Tape", "end", "I", false)
def tyX7 : Nat → FieldType := fun k => match k with
  | 0 => .array .byte
  | 1 => .int
  | 2 => .int
  | 3 => .int
  | 4 => .int
  | _ => .int
abbrev wsX70 : List Cond := u_ws RX7 TX7 6
theorem nmX7 : ∀ a, a < 6 → ∀ b, b < 6 → a ≠ b → (TX7 a).2.1 ≠ (TX7 b).2.1 := by decide +kernel
theorem tyX7_ok : ∀ k, k < 6 → parseFieldDescriptor (TX7 k).2.2.1 = some (tyX7 k) := by decide +kernel
abbrev cX7_init : ByteArray := prog_9_method_1_code
def yX7_init : MethodName := ⟨RX7, "<init>", "()V"⟩
abbrev cX7_append : ByteArray := prog_9_method_2_code
def yX7_append : MethodName := ⟨RX7, "append", "(JI)V"⟩
abbrev cX7_empty : ByteArray := prog_9_method_3_code
def yX7_empty : MethodName := ⟨RX7, "empty", "()V"⟩
abbrev cX7_rewind : ByteArray := prog_9_method_4_code
def yX7_rewind : MethodName := ⟨RX7, "rewind", "()V"⟩
abbrev cX7_step : ByteArray := prog_9_method_5_code
def yX7_step : MethodName := ⟨RX7, "step", "()V"⟩
abbrev cX7_isWord : ByteArray := prog_9_method_6_code
def yX7_isWord : MethodName := ⟨RX7, "isWord", "(Ljava/lang/String;)Z"⟩
abbrev cX7_weighFigures : ByteArray := prog_9_method_7_code
def yX7_weighFigures : MethodName := ⟨RX7, "weighFigures", "()V"⟩
abbrev cX7_sortOfByte : ByteArray := prog_9_method_8_code
def yX7_sortOfByte : MethodName := ⟨RX7, "sortOfByte", "(I)I"⟩
def RX8 : String := "PenniesAway"
def TX8 : u_T := fun k => match k with
  | 0 => ("PenniesAway", "rows", "[LPenniesAway$Row;", true)
  | 1 => ("PenniesAway", "images", "[LPenniesAway$Realm;", true)
  | 2 => ("PenniesAway", "reader", "LPenniesAway$Reader;", true)
  | 3 => ("PenniesAway", "tape", "LPenniesAway$Tape;", true)
  | 4 => ("PenniesAway", "acts", "LPenniesAway$Acts;", true)
  | 5 => ("PenniesAway", "carrier", "LPenniesAway$Carrier;", true)
  | 6 => ("PenniesAway", "asker", "LPenniesAway$Asker;", true)
  | 7 => ("PenniesAway", "kingdom", "LPenniesAway$Realm;", false)
  | 8 => ("PenniesAway", "draft", "LPenniesAway$Realm;", false)
  | 9 => ("PenniesAway", "latestFinding", "I", false)
  | _ => ("PenniesAway", "latestFault", "I", false)
def tyX8 : Nat → FieldType := fun k => match k with
  | 0 => .array (.object "PenniesAway$Row")
  | 1 => .array (.object "PenniesAway$Realm")
  | 2 => .object "PenniesAway$Reader"
  | 3 => .object "PenniesAway$Tape"
  | 4 => .object "PenniesAway$Acts"
  | 5 => .object "PenniesAway$Carrier"
  | 6 => .object "PenniesAway$Asker"
  | 7 => .object "PenniesAway$Realm"
  | 8 => .object "PenniesAway$Realm"
  | 9 => .int
  | _ => .int
abbrev wsX80 : List Cond := u_ws RX8 TX8 11
theorem nmX8 : ∀ a, a < 11 → ∀ b, b < 11 → a ≠ b → (TX8 a).2.1 ≠ (TX8 b).2.1 := by decide +kernel
theorem tyX8_ok : ∀ k, k < 11 → parseFieldDescriptor (TX8 k).2.2.1 = some (tyX8 k) := by decide +kernel
abbrev cX8_init : ByteArray := prog_1_method_1_code
def yX8_init : MethodName := ⟨RX8, "<init>", "()V"⟩
abbrev cX8_row : ByteArray := prog_1_method_2_code
def yX8_row : MethodName := ⟨RX8, "row", "(III)I"⟩
abbrev cX8_set : ByteArray := prog_1_method_3_code
def yX8_set : MethodName := ⟨RX8, "set", "(III)I"⟩
abbrev cX8_copy : ByteArray := prog_1_method_4_code
def yX8_copy : MethodName := ⟨RX8, "copy", "(IIIII)I"⟩
abbrev cX8_drop : ByteArray := prog_1_method_5_code
def yX8_drop : MethodName := ⟨RX8, "drop", "(I)I"⟩
abbrev cX8_feed : ByteArray := prog_1_method_6_code
def yX8_feed : MethodName := ⟨RX8, "feed", "(JI)I"⟩
abbrev cX8_realm : ByteArray := prog_1_method_7_code
def yX8_realm : MethodName := ⟨RX8, "realm", "()I"⟩
abbrev cX8_fault : ByteArray := prog_1_method_8_code
def yX8_fault : MethodName := ⟨RX8, "fault", "()I"⟩
abbrev cX8_pass : ByteArray := prog_1_method_9_code
def yX8_pass : MethodName := ⟨RX8, "pass", "(II)I"⟩
abbrev cX8_send : ByteArray := prog_1_method_10_code
def yX8_send : MethodName := ⟨RX8, "send", "(I)I"⟩
abbrev cX8_sendAll : ByteArray := prog_1_method_11_code
def yX8_sendAll : MethodName := ⟨RX8, "sendAll", "(III)I"⟩
abbrev cX8_days : ByteArray := prog_1_method_12_code
def yX8_days : MethodName := ⟨RX8, "days", "(I)I"⟩
abbrev cX8_flood : ByteArray := prog_1_method_13_code
def yX8_flood : MethodName := ⟨RX8, "flood", "(I)I"⟩
abbrev cX8_undo : ByteArray := prog_1_method_14_code
def yX8_undo : MethodName := ⟨RX8, "undo", "()I"⟩
abbrev cX8_coin : ByteArray := prog_1_method_15_code
def yX8_coin : MethodName := ⟨RX8, "coin", "(II)I"⟩
abbrev cX8_far : ByteArray := prog_1_method_16_code
def yX8_far : MethodName := ⟨RX8, "far", "(II)I"⟩
abbrev cX8_late : ByteArray := prog_1_method_17_code
def yX8_late : MethodName := ⟨RX8, "late", "()I"⟩
abbrev cX8_mustGo : ByteArray := prog_1_method_18_code
def yX8_mustGo : MethodName := ⟨RX8, "mustGo", "(I)I"⟩
abbrev cX8_save : ByteArray := prog_1_method_19_code
def yX8_save : MethodName := ⟨RX8, "save", "(I)I"⟩
abbrev cX8_tour : ByteArray := prog_1_method_20_code
def yX8_tour : MethodName := ⟨RX8, "tour", "(II)I"⟩
abbrev cX8_mint : ByteArray := prog_1_method_21_code
def yX8_mint : MethodName := ⟨RX8, "mint", "(I)I"⟩
abbrev cX8_sounds : ByteArray := prog_1_method_22_code
def yX8_sounds : MethodName := ⟨RX8, "sounds", "(II)I"⟩
abbrev cX8_ear : ByteArray := prog_1_method_23_code
def yX8_ear : MethodName := ⟨RX8, "ear", "(IIIII)I"⟩
abbrev cX8_image : ByteArray := prog_1_method_24_code
def yX8_image : MethodName := ⟨RX8, "image", "(I)I"⟩
abbrev cX8_restore : ByteArray := prog_1_method_25_code
def yX8_restore : MethodName := ⟨RX8, "restore", "(I)I"⟩
abbrev cX8_kind : ByteArray := prog_1_method_26_code
def yX8_kind : MethodName := ⟨RX8, "kind", "(I)I"⟩
abbrev cX8_as : ByteArray := prog_1_method_27_code
def yX8_as : MethodName := ⟨RX8, "as", "(II)I"⟩
abbrev cX8_ask : ByteArray := prog_1_method_28_code
def yX8_ask : MethodName := ⟨RX8, "ask", "(II)I"⟩
abbrev cX8_trace : ByteArray := prog_1_method_29_code
def yX8_trace : MethodName := ⟨RX8, "trace", "(I)I"⟩
abbrev cX8_count : ByteArray := prog_1_method_30_code
def yX8_count : MethodName := ⟨RX8, "count", "(I)I"⟩
abbrev cX8_status : ByteArray := prog_1_method_31_code
def yX8_status : MethodName := ⟨RX8, "status", "()I"⟩
abbrev cX8_sendKept : ByteArray := prog_1_method_32_code
def yX8_sendKept : MethodName := ⟨RX8, "sendKept", "(I)I"⟩
abbrev cX8_rowsThere : ByteArray := prog_1_method_33_code
def yX8_rowsThere : MethodName := ⟨RX8, "rowsThere", "()I"⟩
abbrev cX8_noCoin : ByteArray := prog_1_method_34_code
def yX8_noCoin : MethodName := ⟨RX8, "noCoin", "(I)Z"⟩
abbrev cX8_found : ByteArray := prog_1_method_35_code
def yX8_found : MethodName := ⟨RX8, "found", "(I)I"⟩
abbrev cX8_answered : ByteArray := prog_1_method_36_code
def yX8_answered : MethodName := ⟨RX8, "answered", "(I)I"⟩
abbrev cX8_noRow : ByteArray := prog_1_method_37_code
def yX8_noRow : MethodName := ⟨RX8, "noRow", "(I)Z"⟩
abbrev cX8_outside : ByteArray := prog_1_method_38_code
def yX8_outside : MethodName := ⟨RX8, "outside", "(III)Z"⟩
abbrev cX8_power : ByteArray := prog_1_method_39_code
def yX8_power : MethodName := ⟨RX8, "power", "(II)I"⟩
abbrev cX8_commonDivisor : ByteArray := prog_1_method_40_code
def yX8_commonDivisor : MethodName := ⟨RX8, "commonDivisor", "(II)I"⟩
def RX9 : String := "PenniesAwayModel"
def TX9 : u_T := fun k => match k with
  | 0 => ("PenniesAwayModel", "thrown", "I", false)
  | 1 => ("PenniesAwayModel", "status", "I", false)
  | 2 => ("PenniesAwayModel", "lane", "[I", true)
  | 3 => ("PenniesAwayModel", "many", "[I", true)
  | 4 => ("PenniesAwayModel", "item", "[I", true)
  | 5 => ("PenniesAwayModel", "realm", "[I", true)
  | 6 => ("PenniesAwayModel", "fresh", "[I", true)
  | 7 => ("PenniesAwayModel", "isThere", "Z", false)
  | 8 => ("PenniesAwayModel", "was", "[I", true)
  | 9 => ("PenniesAwayModel", "acts", "I", false)
  | 10 => ("PenniesAwayModel", "tape", "[I", true)
  | 11 => ("PenniesAwayModel", "taped", "I", false)
  | 12 => ("PenniesAwayModel", "latest", "I", false)
  | 13 => ("PenniesAwayModel", "length", "I", false)
  | 14 => ("PenniesAwayModel", "cursor", "I", false)
  | 15 => ("PenniesAwayModel", "token", "I", false)
  | 16 => ("PenniesAwayModel", "start", "I", false)
  | 17 => ("PenniesAwayModel", "till", "I", false)
  | 18 => ("PenniesAwayModel", "fault", "I", false)
  | 19 => ("PenniesAwayModel", "faultAt", "I", false)
  | 20 => ("PenniesAwayModel", "tried", "[I", true)
  | 21 => ("PenniesAwayModel", "best", "[I", true)
  | 22 => ("PenniesAwayModel", "isKept", "[Z", true)
  | 23 => ("PenniesAwayModel", "kept", "[I", true)
  | 24 => ("PenniesAwayModel", "trace", "[I", true)
  | _ => ("PenniesAwayModel", "traced", "I", false)
def tyX9 : Nat → FieldType := fun k => match k with
  | 0 => .int
  | 1 => .int
  | 2 => .array .int
  | 3 => .array .int
  | 4 => .array .int
  | 5 => .array .int
  | 6 => .array .int
  | 7 => .boolean
  | 8 => .array .int
  | 9 => .int
  | 10 => .array .int
  | 11 => .int
  | 12 => .int
  | 13 => .int
  | 14 => .int
  | 15 => .int
  | 16 => .int
  | 17 => .int
  | 18 => .int
  | 19 => .int
  | 20 => .array .int
  | 21 => .array .int
  | 22 => .array .boolean
  | 23 => .array .int
  | 24 => .array .int
  | _ => .int
abbrev wsX90 : List Cond := u_ws RX9 TX9 26
theorem nmX9 : ∀ a, a < 26 → ∀ b, b < 26 → a ≠ b → (TX9 a).2.1 ≠ (TX9 b).2.1 := by decide +kernel
theorem tyX9_ok : ∀ k, k < 26 → parseFieldDescriptor (TX9 k).2.2.1 = some (tyX9 k) := by decide +kernel
abbrev cX9_init : ByteArray := prog_11_method_1_code
def yX9_init : MethodName := ⟨RX9, "<init>", "()V"⟩
abbrev cX9_in : ByteArray := prog_11_method_3_code
def yX9_in : MethodName := ⟨RX9, "in", "(JJJ)Z"⟩
abbrev cX9_finding : ByteArray := prog_11_method_4_code
def yX9_finding : MethodName := ⟨RX9, "finding", "(I)I"⟩
abbrev cX9_isRow : ByteArray := prog_11_method_5_code
def yX9_isRow : MethodName := ⟨RX9, "isRow", "(I)Z"⟩
abbrev cX9_row : ByteArray := prog_11_method_6_code
def yX9_row : MethodName := ⟨RX9, "row", "(III)I"⟩
abbrev cX9_set : ByteArray := prog_11_method_7_code
def yX9_set : MethodName := ⟨RX9, "set", "(III)I"⟩
abbrev cX9_copy : ByteArray := prog_11_method_8_code
def yX9_copy : MethodName := ⟨RX9, "copy", "(IIIII)I"⟩
abbrev cX9_drop : ByteArray := prog_11_method_9_code
def yX9_drop : MethodName := ⟨RX9, "drop", "(I)I"⟩
abbrev cX9_feed : ByteArray := prog_11_method_10_code
def yX9_feed : MethodName := ⟨RX9, "feed", "(JI)I"⟩
abbrev cX9_byteAt : ByteArray := prog_11_method_11_code
def yX9_byteAt : MethodName := ⟨RX9, "byteAt", "(I)I"⟩
abbrev cX9_isLetter : ByteArray := prog_11_method_12_code
def yX9_isLetter : MethodName := ⟨RX9, "isLetter", "(I)Z"⟩
abbrev cX9_isFigure : ByteArray := prog_11_method_13_code
def yX9_isFigure : MethodName := ⟨RX9, "isFigure", "(I)Z"⟩
abbrev cX9_next : ByteArray := prog_11_method_14_code
def yX9_next : MethodName := ⟨RX9, "next", "()V"⟩
abbrev cX9_begin : ByteArray := prog_11_method_15_code
def yX9_begin : MethodName := ⟨RX9, "begin", "()V"⟩
abbrev cX9_bad : ByteArray := prog_11_method_16_code
def yX9_bad : MethodName := ⟨RX9, "bad", "(I)V"⟩
abbrev cX9_must : ByteArray := prog_11_method_17_code
def yX9_must : MethodName := ⟨RX9, "must", "(Z)V"⟩
abbrev cX9_name : ByteArray := prog_11_method_18_code
def yX9_name : MethodName := ⟨RX9, "name", "()J"⟩
abbrev cX9_figures : ByteArray := prog_11_method_19_code
def yX9_figures : MethodName := ⟨RX9, "figures", "()I"⟩
abbrev cX9_number : ByteArray := prog_11_method_20_code
def yX9_number : MethodName := ⟨RX9, "number", "(II)I"⟩
abbrev cX9_kindBy : ByteArray := prog_11_method_21_code
def yX9_kindBy : MethodName := ⟨RX9, "kindBy", "(J)I"⟩
abbrev cX9_mustEnd : ByteArray := prog_11_method_22_code
def yX9_mustEnd : MethodName := ⟨RX9, "mustEnd", "()V"⟩
abbrev cX9_begins : ByteArray := prog_11_method_23_code
def yX9_begins : MethodName := ⟨RX9, "begins", "(II)V"⟩
abbrev cX9_readRoad : ByteArray := prog_11_method_24_code
def yX9_readRoad : MethodName := ⟨RX9, "readRoad", "()V"⟩
abbrev cX9_readHolder : ByteArray := prog_11_method_25_code
def yX9_readHolder : MethodName := ⟨RX9, "readHolder", "()V"⟩
abbrev cX9_readCoin : ByteArray := prog_11_method_26_code
def yX9_readCoin : MethodName := ⟨RX9, "readCoin", "()V"⟩
abbrev cX9_layFar : ByteArray := prog_11_method_27_code
def yX9_layFar : MethodName := ⟨RX9, "layFar", "()V"⟩
abbrev cX9_realm : ByteArray := prog_11_method_28_code
def yX9_realm : MethodName := ⟨RX9, "realm", "()I"⟩
abbrev cX9_fault : ByteArray := prog_11_method_29_code
def yX9_fault : MethodName := ⟨RX9, "fault", "()I"⟩
abbrev cX9_isHolder : ByteArray := prog_11_method_30_code
def yX9_isHolder : MethodName := ⟨RX9, "isHolder", "(I)Z"⟩
abbrev cX9_isCoin : ByteArray := prog_11_method_31_code
def yX9_isCoin : MethodName := ⟨RX9, "isCoin", "(I)Z"⟩
abbrev cX9_of : ByteArray := prog_11_method_32_code
def yX9_of : MethodName := ⟨RX9, "of", "(II)I"⟩
abbrev cX9_becomes : ByteArray := prog_11_method_33_code
def yX9_becomes : MethodName := ⟨RX9, "becomes", "(III)V"⟩
abbrev cX9_townOf : ByteArray := prog_11_method_34_code
def yX9_townOf : MethodName := ⟨RX9, "townOf", "(I)I"⟩
abbrev cX9_farOf : ByteArray := prog_11_method_35_code
def yX9_farOf : MethodName := ⟨RX9, "farOf", "(II)I"⟩
abbrev cX9_spanOf : ByteArray := prog_11_method_36_code
def yX9_spanOf : MethodName := ⟨RX9, "spanOf", "(I)I"⟩
abbrev cX9_slackBy : ByteArray := prog_11_method_37_code
def yX9_slackBy : MethodName := ⟨RX9, "slackBy", "(II)I"⟩
abbrev cX9_slackOf : ByteArray := prog_11_method_38_code
def yX9_slackOf : MethodName := ⟨RX9, "slackOf", "(I)I"⟩
abbrev cX9_keep : ByteArray := prog_11_method_39_code
def yX9_keep : MethodName := ⟨RX9, "keep", "()V"⟩
abbrev cX9_pass : ByteArray := prog_11_method_40_code
def yX9_pass : MethodName := ⟨RX9, "pass", "(II)I"⟩
abbrev cX9_maySend : ByteArray := prog_11_method_41_code
def yX9_maySend : MethodName := ⟨RX9, "maySend", "(I)Z"⟩
abbrev cX9_sends : ByteArray := prog_11_method_42_code
def yX9_sends : MethodName := ⟨RX9, "sends", "(I)V"⟩
abbrev cX9_send : ByteArray := prog_11_method_43_code
def yX9_send : MethodName := ⟨RX9, "send", "(I)I"⟩
abbrev cX9_sendAll : ByteArray := prog_11_method_44_code
def yX9_sendAll : MethodName := ⟨RX9, "sendAll", "(III)I"⟩
abbrev cX9_arrives : ByteArray := prog_11_method_45_code
def yX9_arrives : MethodName := ⟨RX9, "arrives", "(I)V"⟩
abbrev cX9_goesOn : ByteArray := prog_11_method_46_code
def yX9_goesOn : MethodName := ⟨RX9, "goesOn", "(I)V"⟩
abbrev cX9_days : ByteArray := prog_11_method_47_code
def yX9_days : MethodName := ⟨RX9, "days", "(I)I"⟩
abbrev cX9_flood : ByteArray := prog_11_method_48_code
def yX9_flood : MethodName := ⟨RX9, "flood", "(I)I"⟩
abbrev cX9_undo : ByteArray := prog_11_method_49_code
def yX9_undo : MethodName := ⟨RX9, "undo", "()I"⟩
abbrev cX9_worthOf : ByteArray := prog_11_method_50_code
def yX9_worthOf : MethodName := ⟨RX9, "worthOf", "(I)I"⟩
abbrev cX9_coin : ByteArray := prog_11_method_51_code
def yX9_coin : MethodName := ⟨RX9, "coin", "(II)I"⟩
abbrev cX9_far : ByteArray := prog_11_method_52_code
def yX9_far : MethodName := ⟨RX9, "far", "(II)I"⟩
abbrev cX9_late : ByteArray := prog_11_method_53_code
def yX9_late : MethodName := ⟨RX9, "late", "()I"⟩
abbrev cX9_canBeSaved : ByteArray := prog_11_method_54_code
def yX9_canBeSaved : MethodName := ⟨RX9, "canBeSaved", "(I)Z"⟩
abbrev cX9_mustGo : ByteArray := prog_11_method_55_code
def yX9_mustGo : MethodName := ⟨RX9, "mustGo", "(I)I"⟩
abbrev cX9_save : ByteArray := prog_11_method_56_code
def yX9_save : MethodName := ⟨RX9, "save", "(I)I"⟩
abbrev cX9_daysOf : ByteArray := prog_11_method_57_code
def yX9_daysOf : MethodName := ⟨RX9, "daysOf", "(I)I"⟩
abbrev cX9_nextOrder : ByteArray := prog_11_method_58_code
def yX9_nextOrder : MethodName := ⟨RX9, "nextOrder", "(I)Z"⟩
abbrev cX9_layTour : ByteArray := prog_11_method_59_code
def yX9_layTour : MethodName := ⟨RX9, "layTour", "(I)I"⟩
abbrev cX9_savedBy : ByteArray := prog_11_method_60_code
def yX9_savedBy : MethodName := ⟨RX9, "savedBy", "(II)I"⟩
abbrev cX9_tour : ByteArray := prog_11_method_61_code
def yX9_tour : MethodName := ⟨RX9, "tour", "(II)I"⟩
abbrev cX9_lateWith : ByteArray := prog_11_method_62_code
def yX9_lateWith : MethodName := ⟨RX9, "lateWith", "(I)I"⟩
abbrev cX9_mint : ByteArray := prog_11_method_63_code
def yX9_mint : MethodName := ⟨RX9, "mint", "(I)I"⟩
abbrev cX9_sounds : ByteArray := prog_11_method_64_code
def yX9_sounds : MethodName := ⟨RX9, "sounds", "(II)I"⟩
abbrev cX9_timesOf : ByteArray := prog_11_method_65_code
def yX9_timesOf : MethodName := ⟨RX9, "timesOf", "(II)I"⟩
abbrev cX9_ear : ByteArray := prog_11_method_66_code
def yX9_ear : MethodName := ⟨RX9, "ear", "(IIIII)I"⟩
abbrev cX9_image : ByteArray := prog_11_method_67_code
def yX9_image : MethodName := ⟨RX9, "image", "(I)I"⟩
abbrev cX9_restore : ByteArray := prog_11_method_68_code
def yX9_restore : MethodName := ⟨RX9, "restore", "(I)I"⟩
abbrev cX9_isOf : ByteArray := prog_11_method_69_code
def yX9_isOf : MethodName := ⟨RX9, "isOf", "(II)Z"⟩
abbrev cX9_kind : ByteArray := prog_11_method_70_code
def yX9_kind : MethodName := ⟨RX9, "kind", "(I)I"⟩
abbrev cX9_as : ByteArray := prog_11_method_71_code
def yX9_as : MethodName := ⟨RX9, "as", "(II)I"⟩
abbrev cX9_began : ByteArray := prog_11_method_72_code
def yX9_began : MethodName := ⟨RX9, "began", "(I)V"⟩
abbrev cX9_plainSize : ByteArray := prog_11_method_73_code
def yX9_plainSize : MethodName := ⟨RX9, "plainSize", "(I)I"⟩
abbrev cX9_forgedSize : ByteArray := prog_11_method_74_code
def yX9_forgedSize : MethodName := ⟨RX9, "forgedSize", "(I)I"⟩
abbrev cX9_markOf : ByteArray := prog_11_method_75_code
def yX9_markOf : MethodName := ⟨RX9, "markOf", "(I)I"⟩
abbrev cX9_sizeOf : ByteArray := prog_11_method_76_code
def yX9_sizeOf : MethodName := ⟨RX9, "sizeOf", "(I)I"⟩
abbrev cX9_ask : ByteArray := prog_11_method_77_code
def yX9_ask : MethodName := ⟨RX9, "ask", "(II)I"⟩
abbrev cX9_trace : ByteArray := prog_11_method_78_code
def yX9_trace : MethodName := ⟨RX9, "trace", "(I)I"⟩
abbrev cX9_count : ByteArray := prog_11_method_79_code
def yX9_count : MethodName := ⟨RX9, "count", "(I)I"⟩
abbrev cX9_status : ByteArray := prog_11_method_80_code
def yX9_status : MethodName := ⟨RX9, "status", "()I"⟩
def RJx145de : String := "java/io/Serializable"
def TJx145de : u_T := fun k => match k with
  | _ => ("", "", "", false)
def tyJx145de : Nat → FieldType := fun k => match k with
  | _ => .int
abbrev wsJx145de0 : List Cond := u_ws RJx145de TJx145de 0
theorem nmJx145de : ∀ a, a < 0 → ∀ b, b < 0 → a ≠ b → (TJx145de a).2.1 ≠ (TJx145de b).2.1 := by decide +kernel
theorem tyJx145de_ok : ∀ k, k < 0 → parseFieldDescriptor (TJx145de k).2.2.1 = some (tyJx145de k) := by decide +kernel
def RJx9f9b0 : String := "java/lang/CharSequence"
def TJx9f9b0 : u_T := fun k => match k with
  | _ => ("", "", "", false)
def tyJx9f9b0 : Nat → FieldType := fun k => match k with
  | _ => .int
abbrev wsJx9f9b00 : List Cond := u_ws RJx9f9b0 TJx9f9b0 0
theorem nmJx9f9b0 : ∀ a, a < 0 → ∀ b, b < 0 → a ≠ b → (TJx9f9b0 a).2.1 ≠ (TJx9f9b0 b).2.1 := by decide +kernel
theorem tyJx9f9b0_ok : ∀ k, k < 0 → parseFieldDescriptor (TJx9f9b0 k).2.2.1 = some (tyJx9f9b0 k) := by decide +kernel
def RJxb160c : String := "java/lang/Comparable"
def TJxb160c : u_T := fun k => match k with
  | _ => ("", "", "", false)
def tyJxb160c : Nat → FieldType := fun k => match k with
  | _ => .int
abbrev wsJxb160c0 : List Cond := u_ws RJxb160c TJxb160c 0
theorem nmJxb160c : ∀ a, a < 0 → ∀ b, b < 0 → a ≠ b → (TJxb160c a).2.1 ≠ (TJxb160c b).2.1 := by decide +kernel
theorem tyJxb160c_ok : ∀ k, k < 0 → parseFieldDescriptor (TJxb160c k).2.2.1 = some (tyJxb160c k) := by decide +kernel
def RJ6 : String := "java/lang/Integer"
def TJ6 : u_T := fun k => match k with
  | _ => ("", "", "", false)
def tyJ6 : Nat → FieldType := fun k => match k with
  | _ => .int
abbrev wsJ60 : List Cond := u_ws RJ6 TJ6 0
theorem nmJ6 : ∀ a, a < 0 → ∀ b, b < 0 → a ≠ b → (TJ6 a).2.1 ≠ (TJ6 b).2.1 := by decide +kernel
theorem tyJ6_ok : ∀ k, k < 0 → parseFieldDescriptor (TJ6 k).2.2.1 = some (tyJ6 k) := by decide +kernel
abbrev cJ6_bitCount_0f7a4 : ByteArray := prog_12_method_49_code
def yJ6_bitCount_0f7a4 : MethodName := ⟨RJ6, "bitCount", "(I)I"⟩
def RJ9 : String := "java/lang/Math"
def TJ9 : u_T := fun k => match k with
  | _ => ("", "", "", false)
def tyJ9 : Nat → FieldType := fun k => match k with
  | _ => .int
abbrev wsJ90 : List Cond := u_ws RJ9 TJ9 0
theorem nmJ9 : ∀ a, a < 0 → ∀ b, b < 0 → a ≠ b → (TJ9 a).2.1 ≠ (TJ9 b).2.1 := by decide +kernel
theorem tyJ9_ok : ∀ k, k < 0 → parseFieldDescriptor (TJ9 k).2.2.1 = some (tyJ9 k) := by decide +kernel
abbrev cJ9_max_7cf53 : ByteArray := prog_13_method_65_code
def yJ9_max_7cf53 : MethodName := ⟨RJ9, "max", "(II)I"⟩
abbrev cJ9_min_7cf53 : ByteArray := prog_13_method_69_code
def yJ9_min_7cf53 : MethodName := ⟨RJ9, "min", "(II)I"⟩
def RJ0 : String := "java/lang/String"
def TJ0 : u_T := fun k => match k with
  | _ => ("", "", "", false)
def tyJ0 : Nat → FieldType := fun k => match k with
  | _ => .int
abbrev wsJ00 : List Cond := u_ws RJ0 TJ0 0
theorem nmJ0 : ∀ a, a < 0 → ∀ b, b < 0 → a ≠ b → (TJ0 a).2.1 ≠ (TJ0 b).2.1 := by decide +kernel
theorem tyJ0_ok : ∀ k, k < 0 → parseFieldDescriptor (TJ0 k).2.2.1 = some (tyJ0 k) := by decide +kernel
abbrev cJ0_length_8abf5 : ByteArray := prog_14_method_54_code
def yJ0_length_8abf5 : MethodName := ⟨RJ0, "length", "()I"⟩
abbrev cJ0_charAt_5068e : ByteArray := prog_14_method_56_code
def yJ0_charAt_5068e : MethodName := ⟨RJ0, "charAt", "(I)C"⟩
abbrev cJ0_coder_7d493 : ByteArray := prog_14_method_152_code
def yJ0_coder_7d493 : MethodName := ⟨RJ0, "coder", "()B"⟩
abbrev cJ0_isLatin1_aae02 : ByteArray := prog_14_method_154_code
def yJ0_isLatin1_aae02 : MethodName := ⟨RJ0, "isLatin1", "()Z"⟩
abbrev cJ0_checkIndex_df160 : ByteArray := prog_14_method_155_code
def yJ0_checkIndex_df160 : MethodName := ⟨RJ0, "checkIndex", "(II)V"⟩
def RJ1 : String := "java/lang/StringLatin1"
def TJ1 : u_T := fun k => match k with
  | _ => ("", "", "", false)
def tyJ1 : Nat → FieldType := fun k => match k with
  | _ => .int
abbrev wsJ10 : List Cond := u_ws RJ1 TJ1 0
theorem nmJ1 : ∀ a, a < 0 → ∀ b, b < 0 → a ≠ b → (TJ1 a).2.1 ≠ (TJ1 b).2.1 := by decide +kernel
theorem tyJ1_ok : ∀ k, k < 0 → parseFieldDescriptor (TJ1 k).2.2.1 = some (tyJ1 k) := by decide +kernel
abbrev cJ1_charAt_3b067 : ByteArray := prog_15_method_2_code
def yJ1_charAt_3b067 : MethodName := ⟨RJ1, "charAt", "([BI)C"⟩
def RJ2 : String := "java/lang/StringUTF16"
def TJ2 : u_T := fun k => match k with
  | _ => ("", "", "", false)
def tyJ2 : Nat → FieldType := fun k => match k with
  | _ => .int
abbrev wsJ20 : List Cond := u_ws RJ2 TJ2 0
theorem nmJ2 : ∀ a, a < 0 → ∀ b, b < 0 → a ≠ b → (TJ2 a).2.1 ≠ (TJ2 b).2.1 := by decide +kernel
theorem tyJ2_ok : ∀ k, k < 0 → parseFieldDescriptor (TJ2 k).2.2.1 = some (tyJ2 k) := by decide +kernel
abbrev cJ2_getChar_3b067 : ByteArray := prog_16_method_5_code
def yJ2_getChar_3b067 : MethodName := ⟨RJ2, "getChar", "([BI)C"⟩
abbrev cJ2_length_9d52b : ByteArray := prog_16_method_6_code
def yJ2_length_9d52b : MethodName := ⟨RJ2, "length", "([B)I"⟩
abbrev cJ2_charAt_3b067 : ByteArray := prog_16_method_83_code
def yJ2_charAt_3b067 : MethodName := ⟨RJ2, "charAt", "([BI)C"⟩
abbrev cJ2_checkIndex_2214a : ByteArray := prog_16_method_91_code
def yJ2_checkIndex_2214a : MethodName := ⟨RJ2, "checkIndex", "(I[B)V"⟩
def RJ10 : String := "java/lang/System"
def TJ10 : u_T := fun k => match k with
  | _ => ("", "", "", false)
def tyJ10 : Nat → FieldType := fun k => match k with
  | _ => .int
abbrev wsJ100 : List Cond := u_ws RJ10 TJ10 0
theorem nmJ10 : ∀ a, a < 0 → ∀ b, b < 0 → a ≠ b → (TJ10 a).2.1 ≠ (TJ10 b).2.1 := by decide +kernel
theorem tyJ10_ok : ∀ k, k < 0 → parseFieldDescriptor (TJ10 k).2.2.1 = some (tyJ10 k) := by decide +kernel
def RJxfd54e : String := "java/lang/constant/Constable"
def TJxfd54e : u_T := fun k => match k with
  | _ => ("", "", "", false)
def tyJxfd54e : Nat → FieldType := fun k => match k with
  | _ => .int
abbrev wsJxfd54e0 : List Cond := u_ws RJxfd54e TJxfd54e 0
theorem nmJxfd54e : ∀ a, a < 0 → ∀ b, b < 0 → a ≠ b → (TJxfd54e a).2.1 ≠ (TJxfd54e b).2.1 := by decide +kernel
theorem tyJxfd54e_ok : ∀ k, k < 0 → parseFieldDescriptor (TJxfd54e k).2.2.1 = some (tyJxfd54e k) := by decide +kernel
def RJx3cf43 : String := "java/lang/constant/ConstantDesc"
def TJx3cf43 : u_T := fun k => match k with
  | _ => ("", "", "", false)
def tyJx3cf43 : Nat → FieldType := fun k => match k with
  | _ => .int
abbrev wsJx3cf430 : List Cond := u_ws RJx3cf43 TJx3cf43 0
theorem nmJx3cf43 : ∀ a, a < 0 → ∀ b, b < 0 → a ≠ b → (TJx3cf43 a).2.1 ≠ (TJx3cf43 b).2.1 := by decide +kernel
theorem tyJx3cf43_ok : ∀ k, k < 0 → parseFieldDescriptor (TJx3cf43 k).2.2.1 = some (tyJx3cf43 k) := by decide +kernel
def RJ7 : String := "java/util/Arrays"
def TJ7 : u_T := fun k => match k with
  | _ => ("", "", "", false)
def tyJ7 : Nat → FieldType := fun k => match k with
  | _ => .int
abbrev wsJ70 : List Cond := u_ws RJ7 TJ7 0
theorem nmJ7 : ∀ a, a < 0 → ∀ b, b < 0 → a ≠ b → (TJ7 a).2.1 ≠ (TJ7 b).2.1 := by decide +kernel
theorem tyJ7_ok : ∀ k, k < 0 → parseFieldDescriptor (TJ7 k).2.2.1 = some (tyJ7 k) := by decide +kernel
abbrev cJ7_fill_53178 : ByteArray := prog_18_method_103_code
def yJ7_fill_53178 : MethodName := ⟨RJ7, "fill", "([II)V"⟩
def RJ3 : String := "jdk/internal/util/Preconditions"
def TJ3 : u_T := fun k => match k with
  | _ => ("", "", "", false)
def tyJ3 : Nat → FieldType := fun k => match k with
  | _ => .int
abbrev wsJ30 : List Cond := u_ws RJ3 TJ3 0
theorem nmJ3 : ∀ a, a < 0 → ∀ b, b < 0 → a ≠ b → (TJ3 a).2.1 ≠ (TJ3 b).2.1 := by decide +kernel
theorem tyJ3_ok : ∀ k, k < 0 → parseFieldDescriptor (TJ3 k).2.2.1 = some (tyJ3 k) := by decide +kernel
abbrev cJ3_checkIndex_8e157 : ByteArray := prog_19_method_11_code
def yJ3_checkIndex_8e157 : MethodName := ⟨RJ3, "checkIndex", "(IILjava/util/function/BiFunction;)I"⟩
def RL : String := "PenniesAwayLaw"
abbrev cL_law : ByteArray := code
def yL_law : MethodName := ⟨RL, "law", "([I)Z"⟩
def wsX0_init : List Cond := .code yX0_init cX0_init 1 none :: ([.methodLink RX0 1 objectInit, .instanceMethod objectInit, .code objectInit ⟨#[0xb1]⟩ 1 none, .classLink RX0 11 "[[I", .arrayClass .int, .fieldLink RX0 13 "PenniesAway$Acts" "before" "[[I", .fieldLink RX0 16 "PenniesAway$Acts" "next" "I", .fieldLink RX0 20 "PenniesAway$Acts" "kept" "I"] ++ wsX00)
def wsX0_keep : List Cond := .code yX0_keep cX0_keep 2 none :: ([.fieldLink RX0 13 "PenniesAway$Acts" "before" "[[I", .fieldLink RX0 16 "PenniesAway$Acts" "next" "I", .methodLink RX0 23 arraycopyName, .native arraycopyName, .static arraycopyName, .initialized "java/lang/System", .fieldLink RX0 20 "PenniesAway$Acts" "kept" "I", .methodLink RX0 29 Lib.Math.min.name, .static Lib.Math.min.name, .initialized "java/lang/Math", .code Lib.Math.min.name Lib.Math.min.code 2 (some .int)] ++ wsX00)
def wsX0_takeBack : List Cond := .code yX0_takeBack cX0_takeBack 2 none :: ([.fieldLink RX0 16 "PenniesAway$Acts" "next" "I", .fieldLink RX0 13 "PenniesAway$Acts" "before" "[[I", .methodLink RX0 23 arraycopyName, .native arraycopyName, .static arraycopyName, .initialized "java/lang/System", .fieldLink RX0 20 "PenniesAway$Acts" "kept" "I"] ++ wsX00)
def wsX0_forgetAll : List Cond := .code yX0_forgetAll cX0_forgetAll 1 none :: ([.fieldLink RX0 16 "PenniesAway$Acts" "next" "I", .fieldLink RX0 20 "PenniesAway$Acts" "kept" "I"] ++ wsX00)
def wsX1_init : List Cond := .code yX1_init cX1_init 1 none :: ([.methodLink RX1 3 objectInit, .instanceMethod objectInit, .code objectInit ⟨#[0xb1]⟩ 1 none, .arrayClass .int, .fieldLink RX1 11 "PenniesAway$Asker" "notes" "[I", .fieldLink RX1 15 "PenniesAway$Asker" "begun" "I", .fieldLink RX1 19 "PenniesAway$Asker" "number" "I", .fieldLink RX1 22 "PenniesAway$Asker" "kindAsked" "I", .fieldLink RX1 25 "PenniesAway$Asker" "age" "I", .fieldLink RX1 28 "PenniesAway$Asker" "span" "I"] ++ wsX10)
def wsX5_about : List Cond := .code yX5_about cX5_about 3 (some .int) :: ([.fieldLink RX5 21 "PenniesAway$Realm" "changing" "[I"] ++ wsX50)
def wsX5_spanOf : List Cond := .code yX5_spanOf cX5_spanOf 2 (some .int) :: ([.fieldLink RX5 18 "PenniesAway$Realm" "kinds" "[I", .fieldLink RX5 28 "PenniesAway$Realm" "leave" "I"] ++ wsX50)
def wsX8_outside : List Cond := .code yX8_outside cX8_outside 3 (some .boolean) :: ([])
def wsX3_nextOf : List Cond := .code yX3_nextOf cX3_nextOf 1 (some .int) :: ([.fieldLink RX3 15 "PenniesAway$Kinds" "NEXT" "[I", .static yX8_outside, .initialized RX8, .code yX8_outside cX8_outside 3 (some .boolean)])
def wsX1_bodyFor : List Cond := .code yX1_bodyFor cX1_bodyFor 5 (some .int) :: ([.fieldLink RX1 55 "PenniesAway$Asker" "SIZE_BODIES" "[I", .fieldLink RX1 58 "PenniesAway$Asker" "MARK_BODIES" "[I", .fieldLink RX1 22 "PenniesAway$Asker" "kindAsked" "I", .methodLink RX1 66 Lib.Math.max.name, .static Lib.Math.max.name, .initialized "java/lang/Math", .code Lib.Math.max.name Lib.Math.max.code 2 (some .int), .methodLink RX1 63 yX3_nextOf, .static yX3_nextOf, .initialized RX3, .code yX3_nextOf cX3_nextOf 1 (some .int), .fieldLink RX3 15 "PenniesAway$Kinds" "NEXT" "[I", .static yX8_outside, .initialized RX8, .code yX8_outside cX8_outside 3 (some .boolean)] ++ wsX10)
def wsX1_note : List Cond := .code yX1_note cX1_note 2 none :: ([.fieldLink RX1 15 "PenniesAway$Asker" "begun" "I", .fieldLink RX1 11 "PenniesAway$Asker" "notes" "[I"] ++ wsX10)
def wsX1_begin_r1 : List Cond := [Cond.fieldLink RX1 25 "PenniesAway$Asker" "age" "I", Cond.fieldLink RX1 19 "PenniesAway$Asker" "number" "I", Cond.fieldLink RX1 28 "PenniesAway$Asker" "span" "I", Cond.methodLink RX1 71 yX1_note, Cond.instanceMethod yX1_note, Cond.selects RX1 yX1_note yX1_note, Cond.initialized RX1, Cond.code yX1_note cX1_note 2 none, Cond.fieldLink RX1 15 "PenniesAway$Asker" "begun" "I", Cond.fieldLink RX1 11 "PenniesAway$Asker" "notes" "[I", Cond.methodLink RX1 47 yX1_begin, Cond.instanceMethod yX1_begin, Cond.selects RX1 yX1_begin yX1_begin, Cond.methodLink RX1 44 yX1_bodyFor, Cond.instanceMethod yX1_bodyFor, Cond.selects RX1 yX1_bodyFor yX1_bodyFor, Cond.code yX1_bodyFor cX1_bodyFor 5 (some .int), Cond.fieldLink RX1 55 "PenniesAway$Asker" "SIZE_BODIES" "[I", Cond.fieldLink RX1 58 "PenniesAway$Asker" "MARK_BODIES" "[I", Cond.fieldLink RX1 22 "PenniesAway$Asker" "kindAsked" "I", Cond.methodLink RX1 66 Lib.Math.max.name, Cond.static Lib.Math.max.name, Cond.initialized "java/lang/Math", Cond.code Lib.Math.max.name Lib.Math.max.code 2 (some .int)]
def wsX1_begin_r2 : List Cond := [Cond.methodLink RX1 63 yX3_nextOf, Cond.static yX3_nextOf, Cond.initialized RX3, Cond.code yX3_nextOf cX3_nextOf 1 (some .int), Cond.fieldLink RX3 15 "PenniesAway$Kinds" "NEXT" "[I", Cond.static yX8_outside, Cond.initialized RX8, Cond.code yX8_outside cX8_outside 3 (some .boolean)]
def wsX1_begin : List Cond := .code yX1_begin cX1_begin 4 (some .int) :: ((wsX1_begin_r1 ++ wsX1_begin_r2) ++ wsX10)
def wsX1_answer_r1 : List Cond := [Cond.fieldLink RX1 15 "PenniesAway$Asker" "begun" "I", Cond.fieldLink RX1 19 "PenniesAway$Asker" "number" "I", Cond.fieldLink RX1 31 "PenniesAway$Realm" "kinds" "[I", Cond.fieldLink RX1 22 "PenniesAway$Asker" "kindAsked" "I", Cond.fieldLink RX1 25 "PenniesAway$Asker" "age" "I", Cond.fieldLink RX1 28 "PenniesAway$Asker" "span" "I", Cond.methodLink RX1 36 yX5_about, Cond.instanceMethod yX5_about, Cond.selects RX5 yX5_about yX5_about, Cond.initialized RX5, Cond.code yX5_about cX5_about 3 (some .int), Cond.fieldLink RX5 21 "PenniesAway$Realm" "changing" "[I", Cond.methodLink RX1 40 yX5_spanOf, Cond.instanceMethod yX5_spanOf, Cond.selects RX5 yX5_spanOf yX5_spanOf, Cond.code yX5_spanOf cX5_spanOf 2 (some .int), Cond.fieldLink RX5 18 "PenniesAway$Realm" "kinds" "[I", Cond.fieldLink RX5 28 "PenniesAway$Realm" "leave" "I", Cond.methodLink RX1 44 yX1_bodyFor, Cond.instanceMethod yX1_bodyFor, Cond.selects RX1 yX1_bodyFor yX1_bodyFor, Cond.initialized RX1, Cond.code yX1_bodyFor cX1_bodyFor 5 (some .int), Cond.fieldLink RX1 55 "PenniesAway$Asker" "SIZE_BODIES" "[I"]
def wsX1_answer_r2 : List Cond := [Cond.fieldLink RX1 58 "PenniesAway$Asker" "MARK_BODIES" "[I", Cond.methodLink RX1 66 Lib.Math.max.name, Cond.static Lib.Math.max.name, Cond.initialized "java/lang/Math", Cond.code Lib.Math.max.name Lib.Math.max.code 2 (some .int), Cond.methodLink RX1 63 yX3_nextOf, Cond.static yX3_nextOf, Cond.initialized RX3, Cond.code yX3_nextOf cX3_nextOf 1 (some .int), Cond.fieldLink RX3 15 "PenniesAway$Kinds" "NEXT" "[I", Cond.static yX8_outside, Cond.initialized RX8, Cond.code yX8_outside cX8_outside 3 (some .boolean), Cond.methodLink RX1 47 yX1_begin, Cond.instanceMethod yX1_begin, Cond.selects RX1 yX1_begin yX1_begin, Cond.code yX1_begin cX1_begin 4 (some .int), Cond.methodLink RX1 71 yX1_note, Cond.instanceMethod yX1_note, Cond.selects RX1 yX1_note yX1_note, Cond.code yX1_note cX1_note 2 none, Cond.fieldLink RX1 11 "PenniesAway$Asker" "notes" "[I"]
def wsX1_answer : List Cond := .code yX1_answer cX1_answer 4 (some .int) :: ((wsX1_answer_r1 ++ wsX1_answer_r2) ++ wsX10 ++ wsX50)
def wsX1_noted : List Cond := .code yX1_noted cX1_noted 2 (some .int) :: ([.fieldLink RX1 15 "PenniesAway$Asker" "begun" "I", .constant RX1 54 (-1000000), .fieldLink RX1 11 "PenniesAway$Asker" "notes" "[I", .static yX8_outside, .initialized RX8, .code yX8_outside cX8_outside 3 (some .boolean)] ++ wsX10)
def wsX2_init : List Cond := .code yX2_init cX2_init 1 none :: ([.methodLink RX2 3 objectInit, .instanceMethod objectInit, .code objectInit ⟨#[0xb1]⟩ 1 none, .arrayClass .int, .fieldLink RX2 11 "PenniesAway$Carrier" "order" "[I", .fieldLink RX2 17 "PenniesAway$Carrier" "path" "[I", .fieldLink RX2 20 "PenniesAway$Carrier" "stops" "I", .constant RX2 24 (-1000000), .fieldLink RX2 25 "PenniesAway$Carrier" "fewest" "I"] ++ wsX20)
def wsJ6_bitCount_0f7a4 : List Cond := .code yJ6_bitCount_0f7a4 cJ6_bitCount_0f7a4 1 (some .int) :: ([.constant RJ6 265 (1431655765), .constant RJ6 266 (858993459), .constant RJ6 267 (252645135)])
def wsX5_distance : List Cond := .code yX5_distance cX5_distance 4 (some .int) :: ([.fieldLink RX5 11 "PenniesAway$Realm" "ways" "[I", .constant RX5 38 (1000000), .constant RX5 61 (-1000000)] ++ wsX50)
def wsX2_comeHome : List Cond := .code yX2_comeHome cX2_comeHome 3 none :: ([.constant RX2 24 (-1000000), .fieldLink RX2 25 "PenniesAway$Carrier" "fewest" "I", .fieldLink RX2 17 "PenniesAway$Carrier" "path" "[I", .fieldLink RX2 11 "PenniesAway$Carrier" "order" "[I", .methodLink RX2 56 arraycopyName, .native arraycopyName, .static arraycopyName, .initialized "java/lang/System"] ++ wsX20)
def wsX2_goOn_r1 : List Cond := [Cond.fieldLink RX2 20 "PenniesAway$Carrier" "stops" "I", Cond.fieldLink RX2 50 "PenniesAway$Realm" "holders" "I", Cond.fieldLink RX2 53 "PenniesAway$Realm" "towns" "[I", Cond.constant RX2 24 (-1000000), Cond.fieldLink RX2 17 "PenniesAway$Carrier" "path" "[I", Cond.methodLink RX2 42 yX5_distance, Cond.instanceMethod yX5_distance, Cond.selects RX5 yX5_distance yX5_distance, Cond.initialized RX5, Cond.code yX5_distance cX5_distance 4 (some .int), Cond.fieldLink RX5 11 "PenniesAway$Realm" "ways" "[I", Cond.constant RX5 38 (1000000), Cond.constant RX5 61 (-1000000), Cond.methodLink RX2 46 yX2_comeHome, Cond.instanceMethod yX2_comeHome, Cond.selects RX2 yX2_comeHome yX2_comeHome, Cond.initialized RX2, Cond.code yX2_comeHome cX2_comeHome 3 none, Cond.fieldLink RX2 25 "PenniesAway$Carrier" "fewest" "I", Cond.fieldLink RX2 11 "PenniesAway$Carrier" "order" "[I", Cond.methodLink RX2 56 arraycopyName, Cond.native arraycopyName, Cond.static arraycopyName, Cond.initialized "java/lang/System"]
def wsX2_goOn_r2 : List Cond := [Cond.methodLink RX2 34 yX2_goOn, Cond.instanceMethod yX2_goOn, Cond.selects RX2 yX2_goOn yX2_goOn]
def wsX2_goOn : List Cond := .code yX2_goOn cX2_goOn 8 none :: ((wsX2_goOn_r1 ++ wsX2_goOn_r2) ++ wsX20 ++ wsX50)
def wsX2_plan_r1 : List Cond := [Cond.fieldLink RX2 20 "PenniesAway$Carrier" "stops" "I", Cond.constant RX2 24 (-1000000), Cond.fieldLink RX2 25 "PenniesAway$Carrier" "fewest" "I", Cond.methodLink RX2 28 yJ6_bitCount_0f7a4, Cond.static yJ6_bitCount_0f7a4, Cond.initialized RJ6, Cond.code yJ6_bitCount_0f7a4 cJ6_bitCount_0f7a4 1 (some .int), Cond.constant RJ6 265 (1431655765), Cond.constant RJ6 266 (858993459), Cond.constant RJ6 267 (252645135), Cond.methodLink RX2 34 yX2_goOn, Cond.instanceMethod yX2_goOn, Cond.selects RX2 yX2_goOn yX2_goOn, Cond.initialized RX2, Cond.code yX2_goOn cX2_goOn 8 none, Cond.fieldLink RX2 50 "PenniesAway$Realm" "holders" "I", Cond.fieldLink RX2 53 "PenniesAway$Realm" "towns" "[I", Cond.fieldLink RX2 17 "PenniesAway$Carrier" "path" "[I", Cond.methodLink RX2 42 yX5_distance, Cond.instanceMethod yX5_distance, Cond.selects RX5 yX5_distance yX5_distance, Cond.initialized RX5, Cond.code yX5_distance cX5_distance 4 (some .int), Cond.fieldLink RX5 11 "PenniesAway$Realm" "ways" "[I"]
def wsX2_plan_r2 : List Cond := [Cond.constant RX5 38 (1000000), Cond.constant RX5 61 (-1000000), Cond.methodLink RX2 46 yX2_comeHome, Cond.instanceMethod yX2_comeHome, Cond.selects RX2 yX2_comeHome yX2_comeHome, Cond.code yX2_comeHome cX2_comeHome 3 none, Cond.fieldLink RX2 11 "PenniesAway$Carrier" "order" "[I", Cond.methodLink RX2 56 arraycopyName, Cond.native arraycopyName, Cond.static arraycopyName, Cond.initialized "java/lang/System"]
def wsX2_plan : List Cond := .code yX2_plan cX2_plan 3 (some .int) :: ((wsX2_plan_r1 ++ wsX2_plan_r2) ++ wsX20 ++ wsX50)
def wsX2_stop : List Cond := .code yX2_stop cX2_stop 2 (some .int) :: ([.fieldLink RX2 20 "PenniesAway$Carrier" "stops" "I", .constant RX2 24 (-1000000), .fieldLink RX2 11 "PenniesAway$Carrier" "order" "[I", .static yX8_outside, .initialized RX8, .code yX8_outside cX8_outside 3 (some .boolean)] ++ wsX20)
def wsX3_isOne : List Cond := .code yX3_isOne cX3_isOne 4 (some .boolean) :: ([.methodLink RX3 19 yX3_nextOf, .static yX3_nextOf, .initialized RX3, .code yX3_nextOf cX3_nextOf 1 (some .int), .fieldLink RX3 15 "PenniesAway$Kinds" "NEXT" "[I", .static yX8_outside, .initialized RX8, .code yX8_outside cX8_outside 3 (some .boolean)])
def wsX7_init : List Cond := .code yX7_init cX7_init 1 none :: ([.methodLink RX7 1 objectInit, .instanceMethod objectInit, .code objectInit ⟨#[0xb1]⟩ 1 none, .arrayClass .byte, .fieldLink RX7 9 "PenniesAway$Tape" "bytes" "[B", .fieldLink RX7 13 "PenniesAway$Tape" "length" "I", .fieldLink RX7 17 "PenniesAway$Tape" "sort" "I", .fieldLink RX7 20 "PenniesAway$Tape" "start" "I", .fieldLink RX7 23 "PenniesAway$Tape" "number" "I", .fieldLink RX7 26 "PenniesAway$Tape" "end" "I"] ++ wsX70)
def wsX4_init : List Cond := .code yX4_init cX4_init 1 none :: ([.methodLink RX4 1 objectInit, .instanceMethod objectInit, .code objectInit ⟨#[0xb1]⟩ 1 none, .classLink RX4 7 RX7, .instantiable RX7 6, .initialized RX7, .fieldLink RX4 10 "PenniesAway$Reader" "text" "LPenniesAway$Tape;", .fieldLink RX4 16 "PenniesAway$Reader" "taken" "I", .fieldLink RX4 20 "PenniesAway$Reader" "faultNumber" "I", .fieldLink RX4 23 "PenniesAway$Reader" "faultPlace" "I", .instanceMethod yX7_init, .code yX7_init cX7_init 1 none, .methodLink RX7 1 objectInit, .arrayClass .byte, .fieldLink RX7 9 "PenniesAway$Tape" "bytes" "[B", .fieldLink RX7 13 "PenniesAway$Tape" "length" "I", .fieldLink RX7 17 "PenniesAway$Tape" "sort" "I", .fieldLink RX7 20 "PenniesAway$Tape" "start" "I", .fieldLink RX7 23 "PenniesAway$Tape" "number" "I", .fieldLink RX7 26 "PenniesAway$Tape" "end" "I"] ++ wsX70 ++ wsX40)
def wsJ7_fill_53178 : List Cond := .code yJ7_fill_53178 cJ7_fill_53178 4 none :: ([])
def wsX5_clear : List Cond := .code yX5_clear cX5_clear 2 none :: ([.fieldLink RX5 11 "PenniesAway$Realm" "ways" "[I", .constant RX5 38 (1000000), .fieldLink RX5 21 "PenniesAway$Realm" "changing" "[I", .fieldLink RX5 24 "PenniesAway$Realm" "told" "Z", .fieldLink RX5 28 "PenniesAway$Realm" "leave" "I", .fieldLink RX5 32 "PenniesAway$Realm" "holders" "I", .fieldLink RX5 35 "PenniesAway$Realm" "coins" "I", .methodLink RX5 39 yJ7_fill_53178, .static yJ7_fill_53178, .initialized RJ7, .code yJ7_fill_53178 cJ7_fill_53178 4 none] ++ wsX50)
def wsX7_sortOfByte : List Cond := .code yX7_sortOfByte cX7_sortOfByte 3 (some .int) :: ([.fieldLink RX7 9 "PenniesAway$Tape" "bytes" "[B"] ++ wsX70)
def wsX7_weighFigures : List Cond := .code yX7_weighFigures cX7_weighFigures 2 none :: ([.fieldLink RX7 26 "PenniesAway$Tape" "end" "I", .fieldLink RX7 20 "PenniesAway$Tape" "start" "I", .fieldLink RX7 17 "PenniesAway$Tape" "sort" "I", .fieldLink RX7 23 "PenniesAway$Tape" "number" "I", .fieldLink RX7 9 "PenniesAway$Tape" "bytes" "[B"] ++ wsX70)
def wsX7_step : List Cond := .code yX7_step cX7_step 1 none :: ([.fieldLink RX7 26 "PenniesAway$Tape" "end" "I", .fieldLink RX7 20 "PenniesAway$Tape" "start" "I", .fieldLink RX7 13 "PenniesAway$Tape" "length" "I", .fieldLink RX7 17 "PenniesAway$Tape" "sort" "I", .methodLink RX7 32 yX7_sortOfByte, .instanceMethod yX7_sortOfByte, .selects RX7 yX7_sortOfByte yX7_sortOfByte, .initialized RX7, .code yX7_sortOfByte cX7_sortOfByte 3 (some .int), .fieldLink RX7 9 "PenniesAway$Tape" "bytes" "[B", .methodLink RX7 36 yX7_weighFigures, .instanceMethod yX7_weighFigures, .selects RX7 yX7_weighFigures yX7_weighFigures, .code yX7_weighFigures cX7_weighFigures 2 none, .fieldLink RX7 23 "PenniesAway$Tape" "number" "I"] ++ wsX70)
def wsX7_rewind : List Cond := .code yX7_rewind cX7_rewind 1 none :: ([.fieldLink RX7 26 "PenniesAway$Tape" "end" "I", .methodLink RX7 29 yX7_step, .instanceMethod yX7_step, .selects RX7 yX7_step yX7_step, .initialized RX7, .code yX7_step cX7_step 1 none, .fieldLink RX7 20 "PenniesAway$Tape" "start" "I", .fieldLink RX7 13 "PenniesAway$Tape" "length" "I", .fieldLink RX7 17 "PenniesAway$Tape" "sort" "I", .methodLink RX7 32 yX7_sortOfByte, .instanceMethod yX7_sortOfByte, .selects RX7 yX7_sortOfByte yX7_sortOfByte, .code yX7_sortOfByte cX7_sortOfByte 3 (some .int), .fieldLink RX7 9 "PenniesAway$Tape" "bytes" "[B", .methodLink RX7 36 yX7_weighFigures, .instanceMethod yX7_weighFigures, .selects RX7 yX7_weighFigures yX7_weighFigures, .code yX7_weighFigures cX7_weighFigures 2 none, .fieldLink RX7 23 "PenniesAway$Tape" "number" "I"] ++ wsX70)
def wsJ0_coder_7d493 : List Cond := .code yJ0_coder_7d493 cJ0_coder_7d493 1 (some .byte) :: ([.fieldLink RJ0 38 "java/lang/String" "COMPACT_STRINGS" "Z", .fieldLink RJ0 15 "java/lang/String" "coder" "B"])
def wsJ0_length_8abf5 : List Cond := .code yJ0_length_8abf5 cJ0_length_8abf5 1 (some .int) :: ([.fieldLink RJ0 9 "java/lang/String" "value" "[B", .methodLink RJ0 335 yJ0_coder_7d493, .instanceMethod yJ0_coder_7d493, .selects RJ0 yJ0_coder_7d493 yJ0_coder_7d493, .initialized RJ0, .code yJ0_coder_7d493 cJ0_coder_7d493 1 (some .byte), .fieldLink RJ0 38 "java/lang/String" "COMPACT_STRINGS" "Z", .fieldLink RJ0 15 "java/lang/String" "coder" "B"])
def wsJ0_isLatin1_aae02 : List Cond := .code yJ0_isLatin1_aae02 cJ0_isLatin1_aae02 1 (some .boolean) :: ([.fieldLink RJ0 38 "java/lang/String" "COMPACT_STRINGS" "Z", .fieldLink RJ0 15 "java/lang/String" "coder" "B"])
def wsJ3_checkIndex_8e157 : List Cond := .code yJ3_checkIndex_8e157 cJ3_checkIndex_8e157 3 (some .int) :: ([])
def wsJ0_checkIndex_df160 : List Cond := .code yJ0_checkIndex_df160 cJ0_checkIndex_df160 2 none :: ([.fieldLink RJ0 1053 "jdk/internal/util/Preconditions" "SIOOBE_FORMATTER" "Ljava/util/function/BiFunction;", .methodLink RJ0 1059 yJ3_checkIndex_8e157, .static yJ3_checkIndex_8e157, .initialized RJ3, .code yJ3_checkIndex_8e157 cJ3_checkIndex_8e157 3 (some .int)])
def wsJ1_charAt_3b067 : List Cond := .code yJ1_charAt_3b067 cJ1_charAt_3b067 2 (some .char) :: ([.methodLink RJ1 9 yJ0_checkIndex_df160, .static yJ0_checkIndex_df160, .initialized RJ0, .code yJ0_checkIndex_df160 cJ0_checkIndex_df160 2 none, .fieldLink RJ0 1053 "jdk/internal/util/Preconditions" "SIOOBE_FORMATTER" "Ljava/util/function/BiFunction;", .methodLink RJ0 1059 yJ3_checkIndex_8e157, .static yJ3_checkIndex_8e157, .initialized RJ3, .code yJ3_checkIndex_8e157 cJ3_checkIndex_8e157 3 (some .int)])
def wsJ2_length_9d52b : List Cond := .code yJ2_length_9d52b cJ2_length_9d52b 1 (some .int) :: ([])
def wsJ2_checkIndex_2214a : List Cond := .code yJ2_checkIndex_2214a cJ2_checkIndex_2214a 2 none :: ([.methodLink RJ2 48 yJ2_length_9d52b, .static yJ2_length_9d52b, .initialized RJ2, .code yJ2_length_9d52b cJ2_length_9d52b 1 (some .int), .methodLink RJ2 414 yJ0_checkIndex_df160, .static yJ0_checkIndex_df160, .initialized RJ0, .code yJ0_checkIndex_df160 cJ0_checkIndex_df160 2 none, .fieldLink RJ0 1053 "jdk/internal/util/Preconditions" "SIOOBE_FORMATTER" "Ljava/util/function/BiFunction;", .methodLink RJ0 1059 yJ3_checkIndex_8e157, .static yJ3_checkIndex_8e157, .initialized RJ3, .code yJ3_checkIndex_8e157 cJ3_checkIndex_8e157 3 (some .int)])
def wsJ2_getChar_3b067 : List Cond := .code yJ2_getChar_3b067 cJ2_getChar_3b067 2 (some .char) :: ([.fieldLink RJ2 44 "java/lang/StringUTF16" "$assertionsDisabled" "Z", .fieldLink RJ2 59 "java/lang/StringUTF16" "HI_BYTE_SHIFT" "I", .fieldLink RJ2 63 "java/lang/StringUTF16" "LO_BYTE_SHIFT" "I", .methodLink RJ2 48 yJ2_length_9d52b, .static yJ2_length_9d52b, .initialized RJ2, .code yJ2_length_9d52b cJ2_length_9d52b 1 (some .int)])
def wsJ2_charAt_3b067 : List Cond := .code yJ2_charAt_3b067 cJ2_charAt_3b067 2 (some .char) :: ([.methodLink RJ2 67 yJ2_checkIndex_2214a, .static yJ2_checkIndex_2214a, .initialized RJ2, .code yJ2_checkIndex_2214a cJ2_checkIndex_2214a 2 none, .methodLink RJ2 48 yJ2_length_9d52b, .static yJ2_length_9d52b, .code yJ2_length_9d52b cJ2_length_9d52b 1 (some .int), .methodLink RJ2 414 yJ0_checkIndex_df160, .static yJ0_checkIndex_df160, .initialized RJ0, .code yJ0_checkIndex_df160 cJ0_checkIndex_df160 2 none, .fieldLink RJ0 1053 "jdk/internal/util/Preconditions" "SIOOBE_FORMATTER" "Ljava/util/function/BiFunction;", .methodLink RJ0 1059 yJ3_checkIndex_8e157, .static yJ3_checkIndex_8e157, .initialized RJ3, .code yJ3_checkIndex_8e157 cJ3_checkIndex_8e157 3 (some .int), .methodLink RJ2 71 yJ2_getChar_3b067, .static yJ2_getChar_3b067, .code yJ2_getChar_3b067 cJ2_getChar_3b067 2 (some .char), .fieldLink RJ2 44 "java/lang/StringUTF16" "$assertionsDisabled" "Z", .fieldLink RJ2 59 "java/lang/StringUTF16" "HI_BYTE_SHIFT" "I", .fieldLink RJ2 63 "java/lang/StringUTF16" "LO_BYTE_SHIFT" "I"])
def wsJ0_charAt_5068e_r1 : List Cond := [Cond.fieldLink RJ0 9 "java/lang/String" "value" "[B", Cond.methodLink RJ0 492 yJ0_isLatin1_aae02, Cond.instanceMethod yJ0_isLatin1_aae02, Cond.selects RJ0 yJ0_isLatin1_aae02 yJ0_isLatin1_aae02, Cond.initialized RJ0, Cond.code yJ0_isLatin1_aae02 cJ0_isLatin1_aae02 1 (some .boolean), Cond.fieldLink RJ0 38 "java/lang/String" "COMPACT_STRINGS" "Z", Cond.fieldLink RJ0 15 "java/lang/String" "coder" "B", Cond.methodLink RJ0 495 yJ1_charAt_3b067, Cond.static yJ1_charAt_3b067, Cond.initialized RJ1, Cond.code yJ1_charAt_3b067 cJ1_charAt_3b067 2 (some .char), Cond.methodLink RJ1 9 yJ0_checkIndex_df160, Cond.static yJ0_checkIndex_df160, Cond.code yJ0_checkIndex_df160 cJ0_checkIndex_df160 2 none, Cond.fieldLink RJ0 1053 "jdk/internal/util/Preconditions" "SIOOBE_FORMATTER" "Ljava/util/function/BiFunction;", Cond.methodLink RJ0 1059 yJ3_checkIndex_8e157, Cond.static yJ3_checkIndex_8e157, Cond.initialized RJ3, Cond.code yJ3_checkIndex_8e157 cJ3_checkIndex_8e157 3 (some .int), Cond.methodLink RJ0 498 yJ2_charAt_3b067, Cond.static yJ2_charAt_3b067, Cond.initialized RJ2, Cond.code yJ2_charAt_3b067 cJ2_charAt_3b067 2 (some .char)]
def wsJ0_charAt_5068e_r2 : List Cond := [Cond.methodLink RJ2 67 yJ2_checkIndex_2214a, Cond.static yJ2_checkIndex_2214a, Cond.code yJ2_checkIndex_2214a cJ2_checkIndex_2214a 2 none, Cond.methodLink RJ2 48 yJ2_length_9d52b, Cond.static yJ2_length_9d52b, Cond.code yJ2_length_9d52b cJ2_length_9d52b 1 (some .int), Cond.methodLink RJ2 414 yJ0_checkIndex_df160, Cond.methodLink RJ2 71 yJ2_getChar_3b067, Cond.static yJ2_getChar_3b067, Cond.code yJ2_getChar_3b067 cJ2_getChar_3b067 2 (some .char), Cond.fieldLink RJ2 44 "java/lang/StringUTF16" "$assertionsDisabled" "Z", Cond.fieldLink RJ2 59 "java/lang/StringUTF16" "HI_BYTE_SHIFT" "I", Cond.fieldLink RJ2 63 "java/lang/StringUTF16" "LO_BYTE_SHIFT" "I"]
def wsJ0_charAt_5068e : List Cond := .code yJ0_charAt_5068e cJ0_charAt_5068e 2 (some .char) :: ((wsJ0_charAt_5068e_r1 ++ wsJ0_charAt_5068e_r2))
def wsX7_isWord_r1 : List Cond := [Cond.fieldLink RX7 17 "PenniesAway$Tape" "sort" "I", Cond.fieldLink RX7 26 "PenniesAway$Tape" "end" "I", Cond.fieldLink RX7 20 "PenniesAway$Tape" "start" "I", Cond.fieldLink RX7 9 "PenniesAway$Tape" "bytes" "[B", Cond.methodLink RX7 39 yJ0_length_8abf5, Cond.instanceMethod yJ0_length_8abf5, Cond.selects RJ0 yJ0_length_8abf5 yJ0_length_8abf5, Cond.initialized RJ0, Cond.code yJ0_length_8abf5 cJ0_length_8abf5 1 (some .int), Cond.fieldLink RJ0 9 "java/lang/String" "value" "[B", Cond.methodLink RJ0 335 yJ0_coder_7d493, Cond.instanceMethod yJ0_coder_7d493, Cond.selects RJ0 yJ0_coder_7d493 yJ0_coder_7d493, Cond.code yJ0_coder_7d493 cJ0_coder_7d493 1 (some .byte), Cond.fieldLink RJ0 38 "java/lang/String" "COMPACT_STRINGS" "Z", Cond.fieldLink RJ0 15 "java/lang/String" "coder" "B", Cond.methodLink RX7 44 yJ0_charAt_5068e, Cond.instanceMethod yJ0_charAt_5068e, Cond.selects RJ0 yJ0_charAt_5068e yJ0_charAt_5068e, Cond.code yJ0_charAt_5068e cJ0_charAt_5068e 2 (some .char), Cond.methodLink RJ0 492 yJ0_isLatin1_aae02, Cond.instanceMethod yJ0_isLatin1_aae02, Cond.selects RJ0 yJ0_isLatin1_aae02 yJ0_isLatin1_aae02, Cond.code yJ0_isLatin1_aae02 cJ0_isLatin1_aae02 1 (some .boolean)]
def wsX7_isWord_r2 : List Cond := [Cond.methodLink RJ0 495 yJ1_charAt_3b067, Cond.static yJ1_charAt_3b067, Cond.initialized RJ1, Cond.code yJ1_charAt_3b067 cJ1_charAt_3b067 2 (some .char), Cond.methodLink RJ1 9 yJ0_checkIndex_df160, Cond.static yJ0_checkIndex_df160, Cond.code yJ0_checkIndex_df160 cJ0_checkIndex_df160 2 none, Cond.fieldLink RJ0 1053 "jdk/internal/util/Preconditions" "SIOOBE_FORMATTER" "Ljava/util/function/BiFunction;", Cond.methodLink RJ0 1059 yJ3_checkIndex_8e157, Cond.static yJ3_checkIndex_8e157, Cond.initialized RJ3, Cond.code yJ3_checkIndex_8e157 cJ3_checkIndex_8e157 3 (some .int), Cond.methodLink RJ0 498 yJ2_charAt_3b067, Cond.static yJ2_charAt_3b067, Cond.initialized RJ2, Cond.code yJ2_charAt_3b067 cJ2_charAt_3b067 2 (some .char), Cond.methodLink RJ2 67 yJ2_checkIndex_2214a, Cond.static yJ2_checkIndex_2214a, Cond.code yJ2_checkIndex_2214a cJ2_checkIndex_2214a 2 none, Cond.methodLink RJ2 48 yJ2_length_9d52b, Cond.static yJ2_length_9d52b, Cond.code yJ2_length_9d52b cJ2_length_9d52b 1 (some .int), Cond.methodLink RJ2 414 yJ0_checkIndex_df160, Cond.methodLink RJ2 71 yJ2_getChar_3b067]
def wsX7_isWord_r3 : List Cond := [Cond.static yJ2_getChar_3b067, Cond.code yJ2_getChar_3b067 cJ2_getChar_3b067 2 (some .char), Cond.fieldLink RJ2 44 "java/lang/StringUTF16" "$assertionsDisabled" "Z", Cond.fieldLink RJ2 59 "java/lang/StringUTF16" "HI_BYTE_SHIFT" "I", Cond.fieldLink RJ2 63 "java/lang/StringUTF16" "LO_BYTE_SHIFT" "I"]
def wsX7_isWord : List Cond := .code yX7_isWord cX7_isWord 3 (some .boolean) :: ((wsX7_isWord_r1 ++ (wsX7_isWord_r2 ++ wsX7_isWord_r3)) ++ wsX70)
def wsX4_faulty : List Cond := .code yX4_faulty cX4_faulty 2 (some .boolean) :: ([.fieldLink RX4 20 "PenniesAway$Reader" "faultNumber" "I", .fieldLink RX4 10 "PenniesAway$Reader" "text" "LPenniesAway$Tape;", .fieldLink RX4 132 "PenniesAway$Tape" "start" "I", .fieldLink RX4 23 "PenniesAway$Reader" "faultPlace" "I"] ++ wsX40 ++ wsX70)
def wsX4_takeNumber_r1 : List Cond := [Cond.fieldLink RX4 10 "PenniesAway$Reader" "text" "LPenniesAway$Tape;", Cond.fieldLink RX4 47 "PenniesAway$Tape" "sort" "I", Cond.fieldLink RX4 86 "PenniesAway$Tape" "number" "I", Cond.fieldLink RX4 16 "PenniesAway$Reader" "taken" "I", Cond.methodLink RX4 50 yX4_faulty, Cond.instanceMethod yX4_faulty, Cond.selects RX4 yX4_faulty yX4_faulty, Cond.initialized RX4, Cond.code yX4_faulty cX4_faulty 2 (some .boolean), Cond.fieldLink RX4 20 "PenniesAway$Reader" "faultNumber" "I", Cond.fieldLink RX4 132 "PenniesAway$Tape" "start" "I", Cond.fieldLink RX4 23 "PenniesAway$Reader" "faultPlace" "I", Cond.static yX8_outside, Cond.initialized RX8, Cond.code yX8_outside cX8_outside 3 (some .boolean), Cond.methodLink RX4 67 yX7_step, Cond.instanceMethod yX7_step, Cond.selects RX7 yX7_step yX7_step, Cond.initialized RX7, Cond.code yX7_step cX7_step 1 none, Cond.fieldLink RX7 26 "PenniesAway$Tape" "end" "I", Cond.fieldLink RX7 20 "PenniesAway$Tape" "start" "I", Cond.fieldLink RX7 13 "PenniesAway$Tape" "length" "I", Cond.fieldLink RX7 17 "PenniesAway$Tape" "sort" "I"]
def wsX4_takeNumber_r2 : List Cond := [Cond.methodLink RX7 32 yX7_sortOfByte, Cond.instanceMethod yX7_sortOfByte, Cond.selects RX7 yX7_sortOfByte yX7_sortOfByte, Cond.code yX7_sortOfByte cX7_sortOfByte 3 (some .int), Cond.fieldLink RX7 9 "PenniesAway$Tape" "bytes" "[B", Cond.methodLink RX7 36 yX7_weighFigures, Cond.instanceMethod yX7_weighFigures, Cond.selects RX7 yX7_weighFigures yX7_weighFigures, Cond.code yX7_weighFigures cX7_weighFigures 2 none, Cond.fieldLink RX7 23 "PenniesAway$Tape" "number" "I"]
def wsX4_takeNumber : List Cond := .code yX4_takeNumber cX4_takeNumber 3 (some .boolean) :: ((wsX4_takeNumber_r1 ++ wsX4_takeNumber_r2) ++ wsX40 ++ wsX70)
def wsX4_takeSign_r1 : List Cond := [Cond.fieldLink RX4 10 "PenniesAway$Reader" "text" "LPenniesAway$Tape;", Cond.fieldLink RX4 47 "PenniesAway$Tape" "sort" "I", Cond.methodLink RX4 50 yX4_faulty, Cond.instanceMethod yX4_faulty, Cond.selects RX4 yX4_faulty yX4_faulty, Cond.initialized RX4, Cond.code yX4_faulty cX4_faulty 2 (some .boolean), Cond.fieldLink RX4 20 "PenniesAway$Reader" "faultNumber" "I", Cond.fieldLink RX4 132 "PenniesAway$Tape" "start" "I", Cond.fieldLink RX4 23 "PenniesAway$Reader" "faultPlace" "I", Cond.methodLink RX4 67 yX7_step, Cond.instanceMethod yX7_step, Cond.selects RX7 yX7_step yX7_step, Cond.initialized RX7, Cond.code yX7_step cX7_step 1 none, Cond.fieldLink RX7 26 "PenniesAway$Tape" "end" "I", Cond.fieldLink RX7 20 "PenniesAway$Tape" "start" "I", Cond.fieldLink RX7 13 "PenniesAway$Tape" "length" "I", Cond.fieldLink RX7 17 "PenniesAway$Tape" "sort" "I", Cond.methodLink RX7 32 yX7_sortOfByte, Cond.instanceMethod yX7_sortOfByte, Cond.selects RX7 yX7_sortOfByte yX7_sortOfByte, Cond.code yX7_sortOfByte cX7_sortOfByte 3 (some .int), Cond.fieldLink RX7 9 "PenniesAway$Tape" "bytes" "[B"]
def wsX4_takeSign_r2 : List Cond := [Cond.methodLink RX7 36 yX7_weighFigures, Cond.instanceMethod yX7_weighFigures, Cond.selects RX7 yX7_weighFigures yX7_weighFigures, Cond.code yX7_weighFigures cX7_weighFigures 2 none, Cond.fieldLink RX7 23 "PenniesAway$Tape" "number" "I"]
def wsX4_takeSign : List Cond := .code yX4_takeSign cX4_takeSign 1 (some .boolean) :: ((wsX4_takeSign_r1 ++ wsX4_takeSign_r2) ++ wsX40 ++ wsX70)
def wsX4_readLaw_r1 : List Cond := [Cond.fieldLink RX4 10 "PenniesAway$Reader" "text" "LPenniesAway$Tape;", Cond.fieldLink RX4 16 "PenniesAway$Reader" "taken" "I", Cond.fieldLink RX4 74 "PenniesAway$Realm" "leave" "I", Cond.methodLink RX4 63 yX7_isWord, Cond.instanceMethod yX7_isWord, Cond.selects RX7 yX7_isWord yX7_isWord, Cond.initialized RX7, Cond.code yX7_isWord cX7_isWord 3 (some .boolean), Cond.fieldLink RX7 17 "PenniesAway$Tape" "sort" "I", Cond.fieldLink RX7 26 "PenniesAway$Tape" "end" "I", Cond.fieldLink RX7 20 "PenniesAway$Tape" "start" "I", Cond.fieldLink RX7 9 "PenniesAway$Tape" "bytes" "[B", Cond.methodLink RX7 39 yJ0_length_8abf5, Cond.instanceMethod yJ0_length_8abf5, Cond.selects RJ0 yJ0_length_8abf5 yJ0_length_8abf5, Cond.initialized RJ0, Cond.code yJ0_length_8abf5 cJ0_length_8abf5 1 (some .int), Cond.fieldLink RJ0 9 "java/lang/String" "value" "[B", Cond.methodLink RJ0 335 yJ0_coder_7d493, Cond.instanceMethod yJ0_coder_7d493, Cond.selects RJ0 yJ0_coder_7d493 yJ0_coder_7d493, Cond.code yJ0_coder_7d493 cJ0_coder_7d493 1 (some .byte), Cond.fieldLink RJ0 38 "java/lang/String" "COMPACT_STRINGS" "Z", Cond.fieldLink RJ0 15 "java/lang/String" "coder" "B"]
def wsX4_readLaw_r2 : List Cond := [Cond.methodLink RX7 44 yJ0_charAt_5068e, Cond.instanceMethod yJ0_charAt_5068e, Cond.selects RJ0 yJ0_charAt_5068e yJ0_charAt_5068e, Cond.code yJ0_charAt_5068e cJ0_charAt_5068e 2 (some .char), Cond.methodLink RJ0 492 yJ0_isLatin1_aae02, Cond.instanceMethod yJ0_isLatin1_aae02, Cond.selects RJ0 yJ0_isLatin1_aae02 yJ0_isLatin1_aae02, Cond.code yJ0_isLatin1_aae02 cJ0_isLatin1_aae02 1 (some .boolean), Cond.methodLink RJ0 495 yJ1_charAt_3b067, Cond.static yJ1_charAt_3b067, Cond.initialized RJ1, Cond.code yJ1_charAt_3b067 cJ1_charAt_3b067 2 (some .char), Cond.methodLink RJ1 9 yJ0_checkIndex_df160, Cond.static yJ0_checkIndex_df160, Cond.code yJ0_checkIndex_df160 cJ0_checkIndex_df160 2 none, Cond.fieldLink RJ0 1053 "jdk/internal/util/Preconditions" "SIOOBE_FORMATTER" "Ljava/util/function/BiFunction;", Cond.methodLink RJ0 1059 yJ3_checkIndex_8e157, Cond.static yJ3_checkIndex_8e157, Cond.initialized RJ3, Cond.code yJ3_checkIndex_8e157 cJ3_checkIndex_8e157 3 (some .int), Cond.methodLink RJ0 498 yJ2_charAt_3b067, Cond.static yJ2_charAt_3b067, Cond.initialized RJ2, Cond.code yJ2_charAt_3b067 cJ2_charAt_3b067 2 (some .char)]
def wsX4_readLaw_r3 : List Cond := [Cond.methodLink RJ2 67 yJ2_checkIndex_2214a, Cond.static yJ2_checkIndex_2214a, Cond.code yJ2_checkIndex_2214a cJ2_checkIndex_2214a 2 none, Cond.methodLink RJ2 48 yJ2_length_9d52b, Cond.static yJ2_length_9d52b, Cond.code yJ2_length_9d52b cJ2_length_9d52b 1 (some .int), Cond.methodLink RJ2 414 yJ0_checkIndex_df160, Cond.methodLink RJ2 71 yJ2_getChar_3b067, Cond.static yJ2_getChar_3b067, Cond.code yJ2_getChar_3b067 cJ2_getChar_3b067 2 (some .char), Cond.fieldLink RJ2 44 "java/lang/StringUTF16" "$assertionsDisabled" "Z", Cond.fieldLink RJ2 59 "java/lang/StringUTF16" "HI_BYTE_SHIFT" "I", Cond.fieldLink RJ2 63 "java/lang/StringUTF16" "LO_BYTE_SHIFT" "I", Cond.methodLink RX4 50 yX4_faulty, Cond.instanceMethod yX4_faulty, Cond.selects RX4 yX4_faulty yX4_faulty, Cond.initialized RX4, Cond.code yX4_faulty cX4_faulty 2 (some .boolean), Cond.fieldLink RX4 20 "PenniesAway$Reader" "faultNumber" "I", Cond.fieldLink RX4 132 "PenniesAway$Tape" "start" "I", Cond.fieldLink RX4 23 "PenniesAway$Reader" "faultPlace" "I", Cond.methodLink RX4 67 yX7_step, Cond.instanceMethod yX7_step, Cond.selects RX7 yX7_step yX7_step]
def wsX4_readLaw_r4 : List Cond := [Cond.code yX7_step cX7_step 1 none, Cond.fieldLink RX7 13 "PenniesAway$Tape" "length" "I", Cond.methodLink RX7 32 yX7_sortOfByte, Cond.instanceMethod yX7_sortOfByte, Cond.selects RX7 yX7_sortOfByte yX7_sortOfByte, Cond.code yX7_sortOfByte cX7_sortOfByte 3 (some .int), Cond.methodLink RX7 36 yX7_weighFigures, Cond.instanceMethod yX7_weighFigures, Cond.selects RX7 yX7_weighFigures yX7_weighFigures, Cond.code yX7_weighFigures cX7_weighFigures 2 none, Cond.fieldLink RX7 23 "PenniesAway$Tape" "number" "I", Cond.methodLink RX4 70 yX4_takeNumber, Cond.instanceMethod yX4_takeNumber, Cond.selects RX4 yX4_takeNumber yX4_takeNumber, Cond.code yX4_takeNumber cX4_takeNumber 3 (some .boolean), Cond.fieldLink RX4 47 "PenniesAway$Tape" "sort" "I", Cond.fieldLink RX4 86 "PenniesAway$Tape" "number" "I", Cond.static yX8_outside, Cond.initialized RX8, Cond.code yX8_outside cX8_outside 3 (some .boolean), Cond.methodLink RX4 77 yX4_takeSign, Cond.instanceMethod yX4_takeSign, Cond.selects RX4 yX4_takeSign yX4_takeSign, Cond.code yX4_takeSign cX4_takeSign 1 (some .boolean)]
def wsX4_readLaw : List Cond := .code yX4_readLaw cX4_readLaw 2 (some .boolean) :: ((wsX4_readLaw_r1 ++ (wsX4_readLaw_r2 ++ (wsX4_readLaw_r3 ++ wsX4_readLaw_r4))) ++ wsX40 ++ wsX50 ++ wsX70)
def wsX5_addRoad : List Cond := .code yX5_addRoad cX5_addRoad 5 none :: ([.fieldLink RX5 11 "PenniesAway$Realm" "ways" "[I", .methodLink RX5 51 Lib.Math.min.name, .static Lib.Math.min.name, .initialized "java/lang/Math", .code Lib.Math.min.name Lib.Math.min.code 2 (some .int)] ++ wsX50)
def wsX4_readRoad_r1 : List Cond := [Cond.fieldLink RX4 16 "PenniesAway$Reader" "taken" "I", Cond.fieldLink RX4 10 "PenniesAway$Reader" "text" "LPenniesAway$Tape;", Cond.fieldLink RX4 47 "PenniesAway$Tape" "sort" "I", Cond.fieldLink RX4 86 "PenniesAway$Tape" "number" "I", Cond.methodLink RX4 70 yX4_takeNumber, Cond.instanceMethod yX4_takeNumber, Cond.selects RX4 yX4_takeNumber yX4_takeNumber, Cond.initialized RX4, Cond.code yX4_takeNumber cX4_takeNumber 3 (some .boolean), Cond.methodLink RX4 50 yX4_faulty, Cond.instanceMethod yX4_faulty, Cond.selects RX4 yX4_faulty yX4_faulty, Cond.code yX4_faulty cX4_faulty 2 (some .boolean), Cond.fieldLink RX4 20 "PenniesAway$Reader" "faultNumber" "I", Cond.fieldLink RX4 132 "PenniesAway$Tape" "start" "I", Cond.fieldLink RX4 23 "PenniesAway$Reader" "faultPlace" "I", Cond.static yX8_outside, Cond.initialized RX8, Cond.code yX8_outside cX8_outside 3 (some .boolean), Cond.methodLink RX4 67 yX7_step, Cond.instanceMethod yX7_step, Cond.selects RX7 yX7_step yX7_step, Cond.initialized RX7, Cond.code yX7_step cX7_step 1 none]
def wsX4_readRoad_r2 : List Cond := [Cond.fieldLink RX7 26 "PenniesAway$Tape" "end" "I", Cond.fieldLink RX7 20 "PenniesAway$Tape" "start" "I", Cond.fieldLink RX7 13 "PenniesAway$Tape" "length" "I", Cond.fieldLink RX7 17 "PenniesAway$Tape" "sort" "I", Cond.methodLink RX7 32 yX7_sortOfByte, Cond.instanceMethod yX7_sortOfByte, Cond.selects RX7 yX7_sortOfByte yX7_sortOfByte, Cond.code yX7_sortOfByte cX7_sortOfByte 3 (some .int), Cond.fieldLink RX7 9 "PenniesAway$Tape" "bytes" "[B", Cond.methodLink RX7 36 yX7_weighFigures, Cond.instanceMethod yX7_weighFigures, Cond.selects RX7 yX7_weighFigures yX7_weighFigures, Cond.code yX7_weighFigures cX7_weighFigures 2 none, Cond.fieldLink RX7 23 "PenniesAway$Tape" "number" "I", Cond.methodLink RX4 89 yX5_addRoad, Cond.instanceMethod yX5_addRoad, Cond.selects RX5 yX5_addRoad yX5_addRoad, Cond.initialized RX5, Cond.code yX5_addRoad cX5_addRoad 5 none, Cond.fieldLink RX5 11 "PenniesAway$Realm" "ways" "[I", Cond.methodLink RX5 51 Lib.Math.min.name, Cond.static Lib.Math.min.name, Cond.initialized "java/lang/Math", Cond.code Lib.Math.min.name Lib.Math.min.code 2 (some .int)]
def wsX4_readRoad_r3 : List Cond := [Cond.methodLink RX4 77 yX4_takeSign, Cond.instanceMethod yX4_takeSign, Cond.selects RX4 yX4_takeSign yX4_takeSign, Cond.code yX4_takeSign cX4_takeSign 1 (some .boolean)]
def wsX4_readRoad : List Cond := .code yX4_readRoad cX4_readRoad 4 (some .boolean) :: ((wsX4_readRoad_r1 ++ (wsX4_readRoad_r2 ++ wsX4_readRoad_r3)) ++ wsX40 ++ wsX70 ++ wsX50)
def wsX4_readRoads_r1 : List Cond := [Cond.fieldLink RX4 10 "PenniesAway$Reader" "text" "LPenniesAway$Tape;", Cond.methodLink RX4 63 yX7_isWord, Cond.instanceMethod yX7_isWord, Cond.selects RX7 yX7_isWord yX7_isWord, Cond.initialized RX7, Cond.code yX7_isWord cX7_isWord 3 (some .boolean), Cond.fieldLink RX7 17 "PenniesAway$Tape" "sort" "I", Cond.fieldLink RX7 26 "PenniesAway$Tape" "end" "I", Cond.fieldLink RX7 20 "PenniesAway$Tape" "start" "I", Cond.fieldLink RX7 9 "PenniesAway$Tape" "bytes" "[B", Cond.methodLink RX7 39 yJ0_length_8abf5, Cond.instanceMethod yJ0_length_8abf5, Cond.selects RJ0 yJ0_length_8abf5 yJ0_length_8abf5, Cond.initialized RJ0, Cond.code yJ0_length_8abf5 cJ0_length_8abf5 1 (some .int), Cond.fieldLink RJ0 9 "java/lang/String" "value" "[B", Cond.methodLink RJ0 335 yJ0_coder_7d493, Cond.instanceMethod yJ0_coder_7d493, Cond.selects RJ0 yJ0_coder_7d493 yJ0_coder_7d493, Cond.code yJ0_coder_7d493 cJ0_coder_7d493 1 (some .byte), Cond.fieldLink RJ0 38 "java/lang/String" "COMPACT_STRINGS" "Z", Cond.fieldLink RJ0 15 "java/lang/String" "coder" "B", Cond.methodLink RX7 44 yJ0_charAt_5068e, Cond.instanceMethod yJ0_charAt_5068e]
def wsX4_readRoads_r2 : List Cond := [Cond.selects RJ0 yJ0_charAt_5068e yJ0_charAt_5068e, Cond.code yJ0_charAt_5068e cJ0_charAt_5068e 2 (some .char), Cond.methodLink RJ0 492 yJ0_isLatin1_aae02, Cond.instanceMethod yJ0_isLatin1_aae02, Cond.selects RJ0 yJ0_isLatin1_aae02 yJ0_isLatin1_aae02, Cond.code yJ0_isLatin1_aae02 cJ0_isLatin1_aae02 1 (some .boolean), Cond.methodLink RJ0 495 yJ1_charAt_3b067, Cond.static yJ1_charAt_3b067, Cond.initialized RJ1, Cond.code yJ1_charAt_3b067 cJ1_charAt_3b067 2 (some .char), Cond.methodLink RJ1 9 yJ0_checkIndex_df160, Cond.static yJ0_checkIndex_df160, Cond.code yJ0_checkIndex_df160 cJ0_checkIndex_df160 2 none, Cond.fieldLink RJ0 1053 "jdk/internal/util/Preconditions" "SIOOBE_FORMATTER" "Ljava/util/function/BiFunction;", Cond.methodLink RJ0 1059 yJ3_checkIndex_8e157, Cond.static yJ3_checkIndex_8e157, Cond.initialized RJ3, Cond.code yJ3_checkIndex_8e157 cJ3_checkIndex_8e157 3 (some .int), Cond.methodLink RJ0 498 yJ2_charAt_3b067, Cond.static yJ2_charAt_3b067, Cond.initialized RJ2, Cond.code yJ2_charAt_3b067 cJ2_charAt_3b067 2 (some .char), Cond.methodLink RJ2 67 yJ2_checkIndex_2214a, Cond.static yJ2_checkIndex_2214a]
def wsX4_readRoads_r3 : List Cond := [Cond.code yJ2_checkIndex_2214a cJ2_checkIndex_2214a 2 none, Cond.methodLink RJ2 48 yJ2_length_9d52b, Cond.static yJ2_length_9d52b, Cond.code yJ2_length_9d52b cJ2_length_9d52b 1 (some .int), Cond.methodLink RJ2 414 yJ0_checkIndex_df160, Cond.methodLink RJ2 71 yJ2_getChar_3b067, Cond.static yJ2_getChar_3b067, Cond.code yJ2_getChar_3b067 cJ2_getChar_3b067 2 (some .char), Cond.fieldLink RJ2 44 "java/lang/StringUTF16" "$assertionsDisabled" "Z", Cond.fieldLink RJ2 59 "java/lang/StringUTF16" "HI_BYTE_SHIFT" "I", Cond.fieldLink RJ2 63 "java/lang/StringUTF16" "LO_BYTE_SHIFT" "I", Cond.methodLink RX4 50 yX4_faulty, Cond.instanceMethod yX4_faulty, Cond.selects RX4 yX4_faulty yX4_faulty, Cond.initialized RX4, Cond.code yX4_faulty cX4_faulty 2 (some .boolean), Cond.fieldLink RX4 20 "PenniesAway$Reader" "faultNumber" "I", Cond.fieldLink RX4 132 "PenniesAway$Tape" "start" "I", Cond.fieldLink RX4 23 "PenniesAway$Reader" "faultPlace" "I", Cond.methodLink RX4 67 yX7_step, Cond.instanceMethod yX7_step, Cond.selects RX7 yX7_step yX7_step, Cond.code yX7_step cX7_step 1 none, Cond.fieldLink RX7 13 "PenniesAway$Tape" "length" "I"]
def wsX4_readRoads_r4 : List Cond := [Cond.methodLink RX7 32 yX7_sortOfByte, Cond.instanceMethod yX7_sortOfByte, Cond.selects RX7 yX7_sortOfByte yX7_sortOfByte, Cond.code yX7_sortOfByte cX7_sortOfByte 3 (some .int), Cond.methodLink RX7 36 yX7_weighFigures, Cond.instanceMethod yX7_weighFigures, Cond.selects RX7 yX7_weighFigures yX7_weighFigures, Cond.code yX7_weighFigures cX7_weighFigures 2 none, Cond.fieldLink RX7 23 "PenniesAway$Tape" "number" "I", Cond.methodLink RX4 83 yX4_readRoad, Cond.instanceMethod yX4_readRoad, Cond.selects RX4 yX4_readRoad yX4_readRoad, Cond.code yX4_readRoad cX4_readRoad 4 (some .boolean), Cond.fieldLink RX4 16 "PenniesAway$Reader" "taken" "I", Cond.fieldLink RX4 47 "PenniesAway$Tape" "sort" "I", Cond.fieldLink RX4 86 "PenniesAway$Tape" "number" "I", Cond.methodLink RX4 70 yX4_takeNumber, Cond.instanceMethod yX4_takeNumber, Cond.selects RX4 yX4_takeNumber yX4_takeNumber, Cond.code yX4_takeNumber cX4_takeNumber 3 (some .boolean), Cond.static yX8_outside, Cond.initialized RX8, Cond.code yX8_outside cX8_outside 3 (some .boolean), Cond.methodLink RX4 89 yX5_addRoad]
def wsX4_readRoads_r5 : List Cond := [Cond.instanceMethod yX5_addRoad, Cond.selects RX5 yX5_addRoad yX5_addRoad, Cond.initialized RX5, Cond.code yX5_addRoad cX5_addRoad 5 none, Cond.fieldLink RX5 11 "PenniesAway$Realm" "ways" "[I", Cond.methodLink RX5 51 Lib.Math.min.name, Cond.static Lib.Math.min.name, Cond.initialized "java/lang/Math", Cond.code Lib.Math.min.name Lib.Math.min.code 2 (some .int), Cond.methodLink RX4 77 yX4_takeSign, Cond.instanceMethod yX4_takeSign, Cond.selects RX4 yX4_takeSign yX4_takeSign, Cond.code yX4_takeSign cX4_takeSign 1 (some .boolean)]
def wsX4_readRoads : List Cond := .code yX4_readRoads cX4_readRoads 3 (some .boolean) :: ((wsX4_readRoads_r1 ++ (wsX4_readRoads_r2 ++ (wsX4_readRoads_r3 ++ (wsX4_readRoads_r4 ++ wsX4_readRoads_r5)))) ++ wsX40 ++ wsX70 ++ wsX50)
def wsX5_addHolder : List Cond := .code yX5_addHolder cX5_addHolder 2 none :: ([.fieldLink RX5 32 "PenniesAway$Realm" "holders" "I", .fieldLink RX5 15 "PenniesAway$Realm" "towns" "[I"] ++ wsX50)
def wsX4_readHolders_r1 : List Cond := [Cond.fieldLink RX4 10 "PenniesAway$Reader" "text" "LPenniesAway$Tape;", Cond.fieldLink RX4 16 "PenniesAway$Reader" "taken" "I", Cond.methodLink RX4 63 yX7_isWord, Cond.instanceMethod yX7_isWord, Cond.selects RX7 yX7_isWord yX7_isWord, Cond.initialized RX7, Cond.code yX7_isWord cX7_isWord 3 (some .boolean), Cond.fieldLink RX7 17 "PenniesAway$Tape" "sort" "I", Cond.fieldLink RX7 26 "PenniesAway$Tape" "end" "I", Cond.fieldLink RX7 20 "PenniesAway$Tape" "start" "I", Cond.fieldLink RX7 9 "PenniesAway$Tape" "bytes" "[B", Cond.methodLink RX7 39 yJ0_length_8abf5, Cond.instanceMethod yJ0_length_8abf5, Cond.selects RJ0 yJ0_length_8abf5 yJ0_length_8abf5, Cond.initialized RJ0, Cond.code yJ0_length_8abf5 cJ0_length_8abf5 1 (some .int), Cond.fieldLink RJ0 9 "java/lang/String" "value" "[B", Cond.methodLink RJ0 335 yJ0_coder_7d493, Cond.instanceMethod yJ0_coder_7d493, Cond.selects RJ0 yJ0_coder_7d493 yJ0_coder_7d493, Cond.code yJ0_coder_7d493 cJ0_coder_7d493 1 (some .byte), Cond.fieldLink RJ0 38 "java/lang/String" "COMPACT_STRINGS" "Z", Cond.fieldLink RJ0 15 "java/lang/String" "coder" "B", Cond.methodLink RX7 44 yJ0_charAt_5068e]
def wsX4_readHolders_r2 : List Cond := [Cond.instanceMethod yJ0_charAt_5068e, Cond.selects RJ0 yJ0_charAt_5068e yJ0_charAt_5068e, Cond.code yJ0_charAt_5068e cJ0_charAt_5068e 2 (some .char), Cond.methodLink RJ0 492 yJ0_isLatin1_aae02, Cond.instanceMethod yJ0_isLatin1_aae02, Cond.selects RJ0 yJ0_isLatin1_aae02 yJ0_isLatin1_aae02, Cond.code yJ0_isLatin1_aae02 cJ0_isLatin1_aae02 1 (some .boolean), Cond.methodLink RJ0 495 yJ1_charAt_3b067, Cond.static yJ1_charAt_3b067, Cond.initialized RJ1, Cond.code yJ1_charAt_3b067 cJ1_charAt_3b067 2 (some .char), Cond.methodLink RJ1 9 yJ0_checkIndex_df160, Cond.static yJ0_checkIndex_df160, Cond.code yJ0_checkIndex_df160 cJ0_checkIndex_df160 2 none, Cond.fieldLink RJ0 1053 "jdk/internal/util/Preconditions" "SIOOBE_FORMATTER" "Ljava/util/function/BiFunction;", Cond.methodLink RJ0 1059 yJ3_checkIndex_8e157, Cond.static yJ3_checkIndex_8e157, Cond.initialized RJ3, Cond.code yJ3_checkIndex_8e157 cJ3_checkIndex_8e157 3 (some .int), Cond.methodLink RJ0 498 yJ2_charAt_3b067, Cond.static yJ2_charAt_3b067, Cond.initialized RJ2, Cond.code yJ2_charAt_3b067 cJ2_charAt_3b067 2 (some .char), Cond.methodLink RJ2 67 yJ2_checkIndex_2214a]
def wsX4_readHolders_r3 : List Cond := [Cond.static yJ2_checkIndex_2214a, Cond.code yJ2_checkIndex_2214a cJ2_checkIndex_2214a 2 none, Cond.methodLink RJ2 48 yJ2_length_9d52b, Cond.static yJ2_length_9d52b, Cond.code yJ2_length_9d52b cJ2_length_9d52b 1 (some .int), Cond.methodLink RJ2 414 yJ0_checkIndex_df160, Cond.methodLink RJ2 71 yJ2_getChar_3b067, Cond.static yJ2_getChar_3b067, Cond.code yJ2_getChar_3b067 cJ2_getChar_3b067 2 (some .char), Cond.fieldLink RJ2 44 "java/lang/StringUTF16" "$assertionsDisabled" "Z", Cond.fieldLink RJ2 59 "java/lang/StringUTF16" "HI_BYTE_SHIFT" "I", Cond.fieldLink RJ2 63 "java/lang/StringUTF16" "LO_BYTE_SHIFT" "I", Cond.methodLink RX4 50 yX4_faulty, Cond.instanceMethod yX4_faulty, Cond.selects RX4 yX4_faulty yX4_faulty, Cond.initialized RX4, Cond.code yX4_faulty cX4_faulty 2 (some .boolean), Cond.fieldLink RX4 20 "PenniesAway$Reader" "faultNumber" "I", Cond.fieldLink RX4 132 "PenniesAway$Tape" "start" "I", Cond.fieldLink RX4 23 "PenniesAway$Reader" "faultPlace" "I", Cond.methodLink RX4 67 yX7_step, Cond.instanceMethod yX7_step, Cond.selects RX7 yX7_step yX7_step, Cond.code yX7_step cX7_step 1 none]
def wsX4_readHolders_r4 : List Cond := [Cond.fieldLink RX7 13 "PenniesAway$Tape" "length" "I", Cond.methodLink RX7 32 yX7_sortOfByte, Cond.instanceMethod yX7_sortOfByte, Cond.selects RX7 yX7_sortOfByte yX7_sortOfByte, Cond.code yX7_sortOfByte cX7_sortOfByte 3 (some .int), Cond.methodLink RX7 36 yX7_weighFigures, Cond.instanceMethod yX7_weighFigures, Cond.selects RX7 yX7_weighFigures yX7_weighFigures, Cond.code yX7_weighFigures cX7_weighFigures 2 none, Cond.fieldLink RX7 23 "PenniesAway$Tape" "number" "I", Cond.methodLink RX4 70 yX4_takeNumber, Cond.instanceMethod yX4_takeNumber, Cond.selects RX4 yX4_takeNumber yX4_takeNumber, Cond.code yX4_takeNumber cX4_takeNumber 3 (some .boolean), Cond.fieldLink RX4 47 "PenniesAway$Tape" "sort" "I", Cond.fieldLink RX4 86 "PenniesAway$Tape" "number" "I", Cond.static yX8_outside, Cond.initialized RX8, Cond.code yX8_outside cX8_outside 3 (some .boolean), Cond.methodLink RX4 95 yX5_addHolder, Cond.instanceMethod yX5_addHolder, Cond.selects RX5 yX5_addHolder yX5_addHolder, Cond.initialized RX5, Cond.code yX5_addHolder cX5_addHolder 2 none]
def wsX4_readHolders_r5 : List Cond := [Cond.fieldLink RX5 32 "PenniesAway$Realm" "holders" "I", Cond.fieldLink RX5 15 "PenniesAway$Realm" "towns" "[I", Cond.methodLink RX4 77 yX4_takeSign, Cond.instanceMethod yX4_takeSign, Cond.selects RX4 yX4_takeSign yX4_takeSign, Cond.code yX4_takeSign cX4_takeSign 1 (some .boolean)]
def wsX4_readHolders : List Cond := .code yX4_readHolders cX4_readHolders 3 (some .boolean) :: ((wsX4_readHolders_r1 ++ (wsX4_readHolders_r2 ++ (wsX4_readHolders_r3 ++ (wsX4_readHolders_r4 ++ wsX4_readHolders_r5)))) ++ wsX40 ++ wsX70 ++ wsX50)
def wsX4_kindOfWord_r1 : List Cond := [Cond.fieldLink RX4 10 "PenniesAway$Reader" "text" "LPenniesAway$Tape;", Cond.methodLink RX4 63 yX7_isWord, Cond.instanceMethod yX7_isWord, Cond.selects RX7 yX7_isWord yX7_isWord, Cond.initialized RX7, Cond.code yX7_isWord cX7_isWord 3 (some .boolean), Cond.fieldLink RX7 17 "PenniesAway$Tape" "sort" "I", Cond.fieldLink RX7 26 "PenniesAway$Tape" "end" "I", Cond.fieldLink RX7 20 "PenniesAway$Tape" "start" "I", Cond.fieldLink RX7 9 "PenniesAway$Tape" "bytes" "[B", Cond.methodLink RX7 39 yJ0_length_8abf5, Cond.instanceMethod yJ0_length_8abf5, Cond.selects RJ0 yJ0_length_8abf5 yJ0_length_8abf5, Cond.initialized RJ0, Cond.code yJ0_length_8abf5 cJ0_length_8abf5 1 (some .int), Cond.fieldLink RJ0 9 "java/lang/String" "value" "[B", Cond.methodLink RJ0 335 yJ0_coder_7d493, Cond.instanceMethod yJ0_coder_7d493, Cond.selects RJ0 yJ0_coder_7d493 yJ0_coder_7d493, Cond.code yJ0_coder_7d493 cJ0_coder_7d493 1 (some .byte), Cond.fieldLink RJ0 38 "java/lang/String" "COMPACT_STRINGS" "Z", Cond.fieldLink RJ0 15 "java/lang/String" "coder" "B", Cond.methodLink RX7 44 yJ0_charAt_5068e, Cond.instanceMethod yJ0_charAt_5068e]
def wsX4_kindOfWord_r2 : List Cond := [Cond.selects RJ0 yJ0_charAt_5068e yJ0_charAt_5068e, Cond.code yJ0_charAt_5068e cJ0_charAt_5068e 2 (some .char), Cond.methodLink RJ0 492 yJ0_isLatin1_aae02, Cond.instanceMethod yJ0_isLatin1_aae02, Cond.selects RJ0 yJ0_isLatin1_aae02 yJ0_isLatin1_aae02, Cond.code yJ0_isLatin1_aae02 cJ0_isLatin1_aae02 1 (some .boolean), Cond.methodLink RJ0 495 yJ1_charAt_3b067, Cond.static yJ1_charAt_3b067, Cond.initialized RJ1, Cond.code yJ1_charAt_3b067 cJ1_charAt_3b067 2 (some .char), Cond.methodLink RJ1 9 yJ0_checkIndex_df160, Cond.static yJ0_checkIndex_df160, Cond.code yJ0_checkIndex_df160 cJ0_checkIndex_df160 2 none, Cond.fieldLink RJ0 1053 "jdk/internal/util/Preconditions" "SIOOBE_FORMATTER" "Ljava/util/function/BiFunction;", Cond.methodLink RJ0 1059 yJ3_checkIndex_8e157, Cond.static yJ3_checkIndex_8e157, Cond.initialized RJ3, Cond.code yJ3_checkIndex_8e157 cJ3_checkIndex_8e157 3 (some .int), Cond.methodLink RJ0 498 yJ2_charAt_3b067, Cond.static yJ2_charAt_3b067, Cond.initialized RJ2, Cond.code yJ2_charAt_3b067 cJ2_charAt_3b067 2 (some .char), Cond.methodLink RJ2 67 yJ2_checkIndex_2214a, Cond.static yJ2_checkIndex_2214a]
def wsX4_kindOfWord_r3 : List Cond := [Cond.code yJ2_checkIndex_2214a cJ2_checkIndex_2214a 2 none, Cond.methodLink RJ2 48 yJ2_length_9d52b, Cond.static yJ2_length_9d52b, Cond.code yJ2_length_9d52b cJ2_length_9d52b 1 (some .int), Cond.methodLink RJ2 414 yJ0_checkIndex_df160, Cond.methodLink RJ2 71 yJ2_getChar_3b067, Cond.static yJ2_getChar_3b067, Cond.code yJ2_getChar_3b067 cJ2_getChar_3b067 2 (some .char), Cond.fieldLink RJ2 44 "java/lang/StringUTF16" "$assertionsDisabled" "Z", Cond.fieldLink RJ2 59 "java/lang/StringUTF16" "HI_BYTE_SHIFT" "I", Cond.fieldLink RJ2 63 "java/lang/StringUTF16" "LO_BYTE_SHIFT" "I"]
def wsX4_kindOfWord : List Cond := .code yX4_kindOfWord cX4_kindOfWord 1 (some .int) :: ((wsX4_kindOfWord_r1 ++ (wsX4_kindOfWord_r2 ++ wsX4_kindOfWord_r3)) ++ wsX40 ++ wsX70)
def wsX5_put : List Cond := .code yX5_put cX5_put 4 none :: ([.fieldLink RX5 21 "PenniesAway$Realm" "changing" "[I"] ++ wsX50)
def wsX5_addCoin : List Cond := .code yX5_addCoin cX5_addCoin 4 none :: ([.fieldLink RX5 35 "PenniesAway$Realm" "coins" "I", .fieldLink RX5 18 "PenniesAway$Realm" "kinds" "[I", .methodLink RX5 57 yX5_put, .instanceMethod yX5_put, .selects RX5 yX5_put yX5_put, .initialized RX5, .code yX5_put cX5_put 4 none, .fieldLink RX5 21 "PenniesAway$Realm" "changing" "[I"] ++ wsX50)
def wsX4_readCoin_r1 : List Cond := [Cond.fieldLink RX4 10 "PenniesAway$Reader" "text" "LPenniesAway$Tape;", Cond.fieldLink RX4 108 "PenniesAway$Realm" "holders" "I", Cond.fieldLink RX4 16 "PenniesAway$Reader" "taken" "I", Cond.methodLink RX4 104 yX4_kindOfWord, Cond.instanceMethod yX4_kindOfWord, Cond.selects RX4 yX4_kindOfWord yX4_kindOfWord, Cond.initialized RX4, Cond.code yX4_kindOfWord cX4_kindOfWord 1 (some .int), Cond.methodLink RX4 63 yX7_isWord, Cond.instanceMethod yX7_isWord, Cond.selects RX7 yX7_isWord yX7_isWord, Cond.initialized RX7, Cond.code yX7_isWord cX7_isWord 3 (some .boolean), Cond.fieldLink RX7 17 "PenniesAway$Tape" "sort" "I", Cond.fieldLink RX7 26 "PenniesAway$Tape" "end" "I", Cond.fieldLink RX7 20 "PenniesAway$Tape" "start" "I", Cond.fieldLink RX7 9 "PenniesAway$Tape" "bytes" "[B", Cond.methodLink RX7 39 yJ0_length_8abf5, Cond.instanceMethod yJ0_length_8abf5, Cond.selects RJ0 yJ0_length_8abf5 yJ0_length_8abf5, Cond.initialized RJ0, Cond.code yJ0_length_8abf5 cJ0_length_8abf5 1 (some .int), Cond.fieldLink RJ0 9 "java/lang/String" "value" "[B", Cond.methodLink RJ0 335 yJ0_coder_7d493]
def wsX4_readCoin_r2 : List Cond := [Cond.instanceMethod yJ0_coder_7d493, Cond.selects RJ0 yJ0_coder_7d493 yJ0_coder_7d493, Cond.code yJ0_coder_7d493 cJ0_coder_7d493 1 (some .byte), Cond.fieldLink RJ0 38 "java/lang/String" "COMPACT_STRINGS" "Z", Cond.fieldLink RJ0 15 "java/lang/String" "coder" "B", Cond.methodLink RX7 44 yJ0_charAt_5068e, Cond.instanceMethod yJ0_charAt_5068e, Cond.selects RJ0 yJ0_charAt_5068e yJ0_charAt_5068e, Cond.code yJ0_charAt_5068e cJ0_charAt_5068e 2 (some .char), Cond.methodLink RJ0 492 yJ0_isLatin1_aae02, Cond.instanceMethod yJ0_isLatin1_aae02, Cond.selects RJ0 yJ0_isLatin1_aae02 yJ0_isLatin1_aae02, Cond.code yJ0_isLatin1_aae02 cJ0_isLatin1_aae02 1 (some .boolean), Cond.methodLink RJ0 495 yJ1_charAt_3b067, Cond.static yJ1_charAt_3b067, Cond.initialized RJ1, Cond.code yJ1_charAt_3b067 cJ1_charAt_3b067 2 (some .char), Cond.methodLink RJ1 9 yJ0_checkIndex_df160, Cond.static yJ0_checkIndex_df160, Cond.code yJ0_checkIndex_df160 cJ0_checkIndex_df160 2 none, Cond.fieldLink RJ0 1053 "jdk/internal/util/Preconditions" "SIOOBE_FORMATTER" "Ljava/util/function/BiFunction;", Cond.methodLink RJ0 1059 yJ3_checkIndex_8e157, Cond.static yJ3_checkIndex_8e157, Cond.initialized RJ3]
def wsX4_readCoin_r3 : List Cond := [Cond.code yJ3_checkIndex_8e157 cJ3_checkIndex_8e157 3 (some .int), Cond.methodLink RJ0 498 yJ2_charAt_3b067, Cond.static yJ2_charAt_3b067, Cond.initialized RJ2, Cond.code yJ2_charAt_3b067 cJ2_charAt_3b067 2 (some .char), Cond.methodLink RJ2 67 yJ2_checkIndex_2214a, Cond.static yJ2_checkIndex_2214a, Cond.code yJ2_checkIndex_2214a cJ2_checkIndex_2214a 2 none, Cond.methodLink RJ2 48 yJ2_length_9d52b, Cond.static yJ2_length_9d52b, Cond.code yJ2_length_9d52b cJ2_length_9d52b 1 (some .int), Cond.methodLink RJ2 414 yJ0_checkIndex_df160, Cond.methodLink RJ2 71 yJ2_getChar_3b067, Cond.static yJ2_getChar_3b067, Cond.code yJ2_getChar_3b067 cJ2_getChar_3b067 2 (some .char), Cond.fieldLink RJ2 44 "java/lang/StringUTF16" "$assertionsDisabled" "Z", Cond.fieldLink RJ2 59 "java/lang/StringUTF16" "HI_BYTE_SHIFT" "I", Cond.fieldLink RJ2 63 "java/lang/StringUTF16" "LO_BYTE_SHIFT" "I", Cond.methodLink RX4 50 yX4_faulty, Cond.instanceMethod yX4_faulty, Cond.selects RX4 yX4_faulty yX4_faulty, Cond.code yX4_faulty cX4_faulty 2 (some .boolean), Cond.fieldLink RX4 20 "PenniesAway$Reader" "faultNumber" "I", Cond.fieldLink RX4 132 "PenniesAway$Tape" "start" "I"]
def wsX4_readCoin_r4 : List Cond := [Cond.fieldLink RX4 23 "PenniesAway$Reader" "faultPlace" "I", Cond.methodLink RX4 67 yX7_step, Cond.instanceMethod yX7_step, Cond.selects RX7 yX7_step yX7_step, Cond.code yX7_step cX7_step 1 none, Cond.fieldLink RX7 13 "PenniesAway$Tape" "length" "I", Cond.methodLink RX7 32 yX7_sortOfByte, Cond.instanceMethod yX7_sortOfByte, Cond.selects RX7 yX7_sortOfByte yX7_sortOfByte, Cond.code yX7_sortOfByte cX7_sortOfByte 3 (some .int), Cond.methodLink RX7 36 yX7_weighFigures, Cond.instanceMethod yX7_weighFigures, Cond.selects RX7 yX7_weighFigures yX7_weighFigures, Cond.code yX7_weighFigures cX7_weighFigures 2 none, Cond.fieldLink RX7 23 "PenniesAway$Tape" "number" "I", Cond.methodLink RX4 70 yX4_takeNumber, Cond.instanceMethod yX4_takeNumber, Cond.selects RX4 yX4_takeNumber yX4_takeNumber, Cond.code yX4_takeNumber cX4_takeNumber 3 (some .boolean), Cond.fieldLink RX4 47 "PenniesAway$Tape" "sort" "I", Cond.fieldLink RX4 86 "PenniesAway$Tape" "number" "I", Cond.static yX8_outside, Cond.initialized RX8, Cond.code yX8_outside cX8_outside 3 (some .boolean)]
def wsX4_readCoin_r5 : List Cond := [Cond.methodLink RX4 111 yX5_addCoin, Cond.instanceMethod yX5_addCoin, Cond.selects RX5 yX5_addCoin yX5_addCoin, Cond.initialized RX5, Cond.code yX5_addCoin cX5_addCoin 4 none, Cond.fieldLink RX5 35 "PenniesAway$Realm" "coins" "I", Cond.fieldLink RX5 18 "PenniesAway$Realm" "kinds" "[I", Cond.methodLink RX5 57 yX5_put, Cond.instanceMethod yX5_put, Cond.selects RX5 yX5_put yX5_put, Cond.code yX5_put cX5_put 4 none, Cond.fieldLink RX5 21 "PenniesAway$Realm" "changing" "[I", Cond.methodLink RX4 77 yX4_takeSign, Cond.instanceMethod yX4_takeSign, Cond.selects RX4 yX4_takeSign yX4_takeSign, Cond.code yX4_takeSign cX4_takeSign 1 (some .boolean)]
def wsX4_readCoin : List Cond := .code yX4_readCoin cX4_readCoin 4 (some .boolean) :: ((wsX4_readCoin_r1 ++ (wsX4_readCoin_r2 ++ (wsX4_readCoin_r3 ++ (wsX4_readCoin_r4 ++ wsX4_readCoin_r5)))) ++ wsX40 ++ wsX50 ++ wsX70)
def wsX4_readCoins_r1 : List Cond := [Cond.fieldLink RX4 10 "PenniesAway$Reader" "text" "LPenniesAway$Tape;", Cond.methodLink RX4 63 yX7_isWord, Cond.instanceMethod yX7_isWord, Cond.selects RX7 yX7_isWord yX7_isWord, Cond.initialized RX7, Cond.code yX7_isWord cX7_isWord 3 (some .boolean), Cond.fieldLink RX7 17 "PenniesAway$Tape" "sort" "I", Cond.fieldLink RX7 26 "PenniesAway$Tape" "end" "I", Cond.fieldLink RX7 20 "PenniesAway$Tape" "start" "I", Cond.fieldLink RX7 9 "PenniesAway$Tape" "bytes" "[B", Cond.methodLink RX7 39 yJ0_length_8abf5, Cond.instanceMethod yJ0_length_8abf5, Cond.selects RJ0 yJ0_length_8abf5 yJ0_length_8abf5, Cond.initialized RJ0, Cond.code yJ0_length_8abf5 cJ0_length_8abf5 1 (some .int), Cond.fieldLink RJ0 9 "java/lang/String" "value" "[B", Cond.methodLink RJ0 335 yJ0_coder_7d493, Cond.instanceMethod yJ0_coder_7d493, Cond.selects RJ0 yJ0_coder_7d493 yJ0_coder_7d493, Cond.code yJ0_coder_7d493 cJ0_coder_7d493 1 (some .byte), Cond.fieldLink RJ0 38 "java/lang/String" "COMPACT_STRINGS" "Z", Cond.fieldLink RJ0 15 "java/lang/String" "coder" "B", Cond.methodLink RX7 44 yJ0_charAt_5068e, Cond.instanceMethod yJ0_charAt_5068e]
def wsX4_readCoins_r2 : List Cond := [Cond.selects RJ0 yJ0_charAt_5068e yJ0_charAt_5068e, Cond.code yJ0_charAt_5068e cJ0_charAt_5068e 2 (some .char), Cond.methodLink RJ0 492 yJ0_isLatin1_aae02, Cond.instanceMethod yJ0_isLatin1_aae02, Cond.selects RJ0 yJ0_isLatin1_aae02 yJ0_isLatin1_aae02, Cond.code yJ0_isLatin1_aae02 cJ0_isLatin1_aae02 1 (some .boolean), Cond.methodLink RJ0 495 yJ1_charAt_3b067, Cond.static yJ1_charAt_3b067, Cond.initialized RJ1, Cond.code yJ1_charAt_3b067 cJ1_charAt_3b067 2 (some .char), Cond.methodLink RJ1 9 yJ0_checkIndex_df160, Cond.static yJ0_checkIndex_df160, Cond.code yJ0_checkIndex_df160 cJ0_checkIndex_df160 2 none, Cond.fieldLink RJ0 1053 "jdk/internal/util/Preconditions" "SIOOBE_FORMATTER" "Ljava/util/function/BiFunction;", Cond.methodLink RJ0 1059 yJ3_checkIndex_8e157, Cond.static yJ3_checkIndex_8e157, Cond.initialized RJ3, Cond.code yJ3_checkIndex_8e157 cJ3_checkIndex_8e157 3 (some .int), Cond.methodLink RJ0 498 yJ2_charAt_3b067, Cond.static yJ2_charAt_3b067, Cond.initialized RJ2, Cond.code yJ2_charAt_3b067 cJ2_charAt_3b067 2 (some .char), Cond.methodLink RJ2 67 yJ2_checkIndex_2214a, Cond.static yJ2_checkIndex_2214a]
def wsX4_readCoins_r3 : List Cond := [Cond.code yJ2_checkIndex_2214a cJ2_checkIndex_2214a 2 none, Cond.methodLink RJ2 48 yJ2_length_9d52b, Cond.static yJ2_length_9d52b, Cond.code yJ2_length_9d52b cJ2_length_9d52b 1 (some .int), Cond.methodLink RJ2 414 yJ0_checkIndex_df160, Cond.methodLink RJ2 71 yJ2_getChar_3b067, Cond.static yJ2_getChar_3b067, Cond.code yJ2_getChar_3b067 cJ2_getChar_3b067 2 (some .char), Cond.fieldLink RJ2 44 "java/lang/StringUTF16" "$assertionsDisabled" "Z", Cond.fieldLink RJ2 59 "java/lang/StringUTF16" "HI_BYTE_SHIFT" "I", Cond.fieldLink RJ2 63 "java/lang/StringUTF16" "LO_BYTE_SHIFT" "I", Cond.methodLink RX4 50 yX4_faulty, Cond.instanceMethod yX4_faulty, Cond.selects RX4 yX4_faulty yX4_faulty, Cond.initialized RX4, Cond.code yX4_faulty cX4_faulty 2 (some .boolean), Cond.fieldLink RX4 20 "PenniesAway$Reader" "faultNumber" "I", Cond.fieldLink RX4 132 "PenniesAway$Tape" "start" "I", Cond.fieldLink RX4 23 "PenniesAway$Reader" "faultPlace" "I", Cond.methodLink RX4 67 yX7_step, Cond.instanceMethod yX7_step, Cond.selects RX7 yX7_step yX7_step, Cond.code yX7_step cX7_step 1 none, Cond.fieldLink RX7 13 "PenniesAway$Tape" "length" "I"]
def wsX4_readCoins_r4 : List Cond := [Cond.methodLink RX7 32 yX7_sortOfByte, Cond.instanceMethod yX7_sortOfByte, Cond.selects RX7 yX7_sortOfByte yX7_sortOfByte, Cond.code yX7_sortOfByte cX7_sortOfByte 3 (some .int), Cond.methodLink RX7 36 yX7_weighFigures, Cond.instanceMethod yX7_weighFigures, Cond.selects RX7 yX7_weighFigures yX7_weighFigures, Cond.code yX7_weighFigures cX7_weighFigures 2 none, Cond.fieldLink RX7 23 "PenniesAway$Tape" "number" "I", Cond.methodLink RX4 101 yX4_readCoin, Cond.instanceMethod yX4_readCoin, Cond.selects RX4 yX4_readCoin yX4_readCoin, Cond.code yX4_readCoin cX4_readCoin 4 (some .boolean), Cond.fieldLink RX4 108 "PenniesAway$Realm" "holders" "I", Cond.fieldLink RX4 16 "PenniesAway$Reader" "taken" "I", Cond.methodLink RX4 104 yX4_kindOfWord, Cond.instanceMethod yX4_kindOfWord, Cond.selects RX4 yX4_kindOfWord yX4_kindOfWord, Cond.code yX4_kindOfWord cX4_kindOfWord 1 (some .int), Cond.methodLink RX4 70 yX4_takeNumber, Cond.instanceMethod yX4_takeNumber, Cond.selects RX4 yX4_takeNumber yX4_takeNumber, Cond.code yX4_takeNumber cX4_takeNumber 3 (some .boolean), Cond.fieldLink RX4 47 "PenniesAway$Tape" "sort" "I"]
def wsX4_readCoins_r5 : List Cond := [Cond.fieldLink RX4 86 "PenniesAway$Tape" "number" "I", Cond.static yX8_outside, Cond.initialized RX8, Cond.code yX8_outside cX8_outside 3 (some .boolean), Cond.methodLink RX4 111 yX5_addCoin, Cond.instanceMethod yX5_addCoin, Cond.selects RX5 yX5_addCoin yX5_addCoin, Cond.initialized RX5, Cond.code yX5_addCoin cX5_addCoin 4 none, Cond.fieldLink RX5 35 "PenniesAway$Realm" "coins" "I", Cond.fieldLink RX5 18 "PenniesAway$Realm" "kinds" "[I", Cond.methodLink RX5 57 yX5_put, Cond.instanceMethod yX5_put, Cond.selects RX5 yX5_put yX5_put, Cond.code yX5_put cX5_put 4 none, Cond.fieldLink RX5 21 "PenniesAway$Realm" "changing" "[I", Cond.methodLink RX4 77 yX4_takeSign, Cond.instanceMethod yX4_takeSign, Cond.selects RX4 yX4_takeSign yX4_takeSign, Cond.code yX4_takeSign cX4_takeSign 1 (some .boolean)]
def wsX4_readCoins : List Cond := .code yX4_readCoins cX4_readCoins 3 (some .boolean) :: ((wsX4_readCoins_r1 ++ (wsX4_readCoins_r2 ++ (wsX4_readCoins_r3 ++ (wsX4_readCoins_r4 ++ wsX4_readCoins_r5)))) ++ wsX40 ++ wsX70 ++ wsX50)
def wsX5_shortenWays : List Cond := .code yX5_shortenWays cX5_shortenWays 5 none :: ([.fieldLink RX5 11 "PenniesAway$Realm" "ways" "[I", .methodLink RX5 51 Lib.Math.min.name, .static Lib.Math.min.name, .initialized "java/lang/Math", .code Lib.Math.min.name Lib.Math.min.code 2 (some .int)] ++ wsX50)
def wsX4_read_r1 : List Cond := [Cond.fieldLink RX4 10 "PenniesAway$Reader" "text" "LPenniesAway$Tape;", Cond.fieldLink RX4 47 "PenniesAway$Tape" "sort" "I", Cond.fieldLink RX4 57 "PenniesAway$Realm" "told" "Z", Cond.methodLink RX4 26 yX5_clear, Cond.instanceMethod yX5_clear, Cond.selects RX5 yX5_clear yX5_clear, Cond.initialized RX5, Cond.code yX5_clear cX5_clear 2 none, Cond.fieldLink RX5 11 "PenniesAway$Realm" "ways" "[I", Cond.constant RX5 38 (1000000), Cond.fieldLink RX5 21 "PenniesAway$Realm" "changing" "[I", Cond.fieldLink RX5 24 "PenniesAway$Realm" "told" "Z", Cond.fieldLink RX5 28 "PenniesAway$Realm" "leave" "I", Cond.fieldLink RX5 32 "PenniesAway$Realm" "holders" "I", Cond.fieldLink RX5 35 "PenniesAway$Realm" "coins" "I", Cond.methodLink RX5 39 yJ7_fill_53178, Cond.static yJ7_fill_53178, Cond.initialized RJ7, Cond.code yJ7_fill_53178 cJ7_fill_53178 4 none, Cond.methodLink RX4 31 yX7_rewind, Cond.instanceMethod yX7_rewind, Cond.selects RX7 yX7_rewind yX7_rewind, Cond.initialized RX7, Cond.code yX7_rewind cX7_rewind 1 none]
def wsX4_read_r2 : List Cond := [Cond.fieldLink RX7 26 "PenniesAway$Tape" "end" "I", Cond.methodLink RX7 29 yX7_step, Cond.instanceMethod yX7_step, Cond.selects RX7 yX7_step yX7_step, Cond.code yX7_step cX7_step 1 none, Cond.fieldLink RX7 20 "PenniesAway$Tape" "start" "I", Cond.fieldLink RX7 13 "PenniesAway$Tape" "length" "I", Cond.fieldLink RX7 17 "PenniesAway$Tape" "sort" "I", Cond.methodLink RX7 32 yX7_sortOfByte, Cond.instanceMethod yX7_sortOfByte, Cond.selects RX7 yX7_sortOfByte yX7_sortOfByte, Cond.code yX7_sortOfByte cX7_sortOfByte 3 (some .int), Cond.fieldLink RX7 9 "PenniesAway$Tape" "bytes" "[B", Cond.methodLink RX7 36 yX7_weighFigures, Cond.instanceMethod yX7_weighFigures, Cond.selects RX7 yX7_weighFigures yX7_weighFigures, Cond.code yX7_weighFigures cX7_weighFigures 2 none, Cond.fieldLink RX7 23 "PenniesAway$Tape" "number" "I", Cond.methodLink RX4 34 yX4_readLaw, Cond.instanceMethod yX4_readLaw, Cond.selects RX4 yX4_readLaw yX4_readLaw, Cond.initialized RX4, Cond.code yX4_readLaw cX4_readLaw 2 (some .boolean), Cond.fieldLink RX4 16 "PenniesAway$Reader" "taken" "I"]
def wsX4_read_r3 : List Cond := [Cond.fieldLink RX4 74 "PenniesAway$Realm" "leave" "I", Cond.methodLink RX4 63 yX7_isWord, Cond.instanceMethod yX7_isWord, Cond.selects RX7 yX7_isWord yX7_isWord, Cond.code yX7_isWord cX7_isWord 3 (some .boolean), Cond.methodLink RX7 39 yJ0_length_8abf5, Cond.instanceMethod yJ0_length_8abf5, Cond.selects RJ0 yJ0_length_8abf5 yJ0_length_8abf5, Cond.initialized RJ0, Cond.code yJ0_length_8abf5 cJ0_length_8abf5 1 (some .int), Cond.fieldLink RJ0 9 "java/lang/String" "value" "[B", Cond.methodLink RJ0 335 yJ0_coder_7d493, Cond.instanceMethod yJ0_coder_7d493, Cond.selects RJ0 yJ0_coder_7d493 yJ0_coder_7d493, Cond.code yJ0_coder_7d493 cJ0_coder_7d493 1 (some .byte), Cond.fieldLink RJ0 38 "java/lang/String" "COMPACT_STRINGS" "Z", Cond.fieldLink RJ0 15 "java/lang/String" "coder" "B", Cond.methodLink RX7 44 yJ0_charAt_5068e, Cond.instanceMethod yJ0_charAt_5068e, Cond.selects RJ0 yJ0_charAt_5068e yJ0_charAt_5068e, Cond.code yJ0_charAt_5068e cJ0_charAt_5068e 2 (some .char), Cond.methodLink RJ0 492 yJ0_isLatin1_aae02, Cond.instanceMethod yJ0_isLatin1_aae02, Cond.selects RJ0 yJ0_isLatin1_aae02 yJ0_isLatin1_aae02]
def wsX4_read_r4 : List Cond := [Cond.code yJ0_isLatin1_aae02 cJ0_isLatin1_aae02 1 (some .boolean), Cond.methodLink RJ0 495 yJ1_charAt_3b067, Cond.static yJ1_charAt_3b067, Cond.initialized RJ1, Cond.code yJ1_charAt_3b067 cJ1_charAt_3b067 2 (some .char), Cond.methodLink RJ1 9 yJ0_checkIndex_df160, Cond.static yJ0_checkIndex_df160, Cond.code yJ0_checkIndex_df160 cJ0_checkIndex_df160 2 none, Cond.fieldLink RJ0 1053 "jdk/internal/util/Preconditions" "SIOOBE_FORMATTER" "Ljava/util/function/BiFunction;", Cond.methodLink RJ0 1059 yJ3_checkIndex_8e157, Cond.static yJ3_checkIndex_8e157, Cond.initialized RJ3, Cond.code yJ3_checkIndex_8e157 cJ3_checkIndex_8e157 3 (some .int), Cond.methodLink RJ0 498 yJ2_charAt_3b067, Cond.static yJ2_charAt_3b067, Cond.initialized RJ2, Cond.code yJ2_charAt_3b067 cJ2_charAt_3b067 2 (some .char), Cond.methodLink RJ2 67 yJ2_checkIndex_2214a, Cond.static yJ2_checkIndex_2214a, Cond.code yJ2_checkIndex_2214a cJ2_checkIndex_2214a 2 none, Cond.methodLink RJ2 48 yJ2_length_9d52b, Cond.static yJ2_length_9d52b, Cond.code yJ2_length_9d52b cJ2_length_9d52b 1 (some .int), Cond.methodLink RJ2 414 yJ0_checkIndex_df160]
def wsX4_read_r5 : List Cond := [Cond.methodLink RJ2 71 yJ2_getChar_3b067, Cond.static yJ2_getChar_3b067, Cond.code yJ2_getChar_3b067 cJ2_getChar_3b067 2 (some .char), Cond.fieldLink RJ2 44 "java/lang/StringUTF16" "$assertionsDisabled" "Z", Cond.fieldLink RJ2 59 "java/lang/StringUTF16" "HI_BYTE_SHIFT" "I", Cond.fieldLink RJ2 63 "java/lang/StringUTF16" "LO_BYTE_SHIFT" "I", Cond.methodLink RX4 50 yX4_faulty, Cond.instanceMethod yX4_faulty, Cond.selects RX4 yX4_faulty yX4_faulty, Cond.code yX4_faulty cX4_faulty 2 (some .boolean), Cond.fieldLink RX4 20 "PenniesAway$Reader" "faultNumber" "I", Cond.fieldLink RX4 132 "PenniesAway$Tape" "start" "I", Cond.fieldLink RX4 23 "PenniesAway$Reader" "faultPlace" "I", Cond.methodLink RX4 67 yX7_step, Cond.methodLink RX4 70 yX4_takeNumber, Cond.instanceMethod yX4_takeNumber, Cond.selects RX4 yX4_takeNumber yX4_takeNumber, Cond.code yX4_takeNumber cX4_takeNumber 3 (some .boolean), Cond.fieldLink RX4 86 "PenniesAway$Tape" "number" "I", Cond.static yX8_outside, Cond.initialized RX8, Cond.code yX8_outside cX8_outside 3 (some .boolean), Cond.methodLink RX4 77 yX4_takeSign, Cond.instanceMethod yX4_takeSign]
def wsX4_read_r6 : List Cond := [Cond.selects RX4 yX4_takeSign yX4_takeSign, Cond.code yX4_takeSign cX4_takeSign 1 (some .boolean), Cond.methodLink RX4 38 yX4_readRoads, Cond.instanceMethod yX4_readRoads, Cond.selects RX4 yX4_readRoads yX4_readRoads, Cond.code yX4_readRoads cX4_readRoads 3 (some .boolean), Cond.methodLink RX4 83 yX4_readRoad, Cond.instanceMethod yX4_readRoad, Cond.selects RX4 yX4_readRoad yX4_readRoad, Cond.code yX4_readRoad cX4_readRoad 4 (some .boolean), Cond.methodLink RX4 89 yX5_addRoad, Cond.instanceMethod yX5_addRoad, Cond.selects RX5 yX5_addRoad yX5_addRoad, Cond.code yX5_addRoad cX5_addRoad 5 none, Cond.methodLink RX5 51 Lib.Math.min.name, Cond.static Lib.Math.min.name, Cond.initialized "java/lang/Math", Cond.code Lib.Math.min.name Lib.Math.min.code 2 (some .int), Cond.methodLink RX4 41 yX4_readHolders, Cond.instanceMethod yX4_readHolders, Cond.selects RX4 yX4_readHolders yX4_readHolders, Cond.code yX4_readHolders cX4_readHolders 3 (some .boolean), Cond.methodLink RX4 95 yX5_addHolder, Cond.instanceMethod yX5_addHolder]
def wsX4_read_r7 : List Cond := [Cond.selects RX5 yX5_addHolder yX5_addHolder, Cond.code yX5_addHolder cX5_addHolder 2 none, Cond.fieldLink RX5 15 "PenniesAway$Realm" "towns" "[I", Cond.methodLink RX4 44 yX4_readCoins, Cond.instanceMethod yX4_readCoins, Cond.selects RX4 yX4_readCoins yX4_readCoins, Cond.code yX4_readCoins cX4_readCoins 3 (some .boolean), Cond.methodLink RX4 101 yX4_readCoin, Cond.instanceMethod yX4_readCoin, Cond.selects RX4 yX4_readCoin yX4_readCoin, Cond.code yX4_readCoin cX4_readCoin 4 (some .boolean), Cond.fieldLink RX4 108 "PenniesAway$Realm" "holders" "I", Cond.methodLink RX4 104 yX4_kindOfWord, Cond.instanceMethod yX4_kindOfWord, Cond.selects RX4 yX4_kindOfWord yX4_kindOfWord, Cond.code yX4_kindOfWord cX4_kindOfWord 1 (some .int), Cond.methodLink RX4 111 yX5_addCoin, Cond.instanceMethod yX5_addCoin, Cond.selects RX5 yX5_addCoin yX5_addCoin, Cond.code yX5_addCoin cX5_addCoin 4 none, Cond.fieldLink RX5 18 "PenniesAway$Realm" "kinds" "[I", Cond.methodLink RX5 57 yX5_put, Cond.instanceMethod yX5_put, Cond.selects RX5 yX5_put yX5_put]
def wsX4_read_r8 : List Cond := [Cond.code yX5_put cX5_put 4 none, Cond.methodLink RX4 54 yX5_shortenWays, Cond.instanceMethod yX5_shortenWays, Cond.selects RX5 yX5_shortenWays yX5_shortenWays, Cond.code yX5_shortenWays cX5_shortenWays 5 none]
def wsX4_read : List Cond := .code yX4_read cX4_read 2 (some .boolean) :: ((wsX4_read_r1 ++ (wsX4_read_r2 ++ (wsX4_read_r3 ++ (wsX4_read_r4 ++ (wsX4_read_r5 ++ (wsX4_read_r6 ++ (wsX4_read_r7 ++ wsX4_read_r8))))))) ++ wsX40 ++ wsX70 ++ wsX50)
def wsX5_init : List Cond := .code yX5_init cX5_init 1 none :: ([.methodLink RX5 3 objectInit, .instanceMethod objectInit, .code objectInit ⟨#[0xb1]⟩ 1 none, .arrayClass .int, .fieldLink RX5 11 "PenniesAway$Realm" "ways" "[I", .fieldLink RX5 15 "PenniesAway$Realm" "towns" "[I", .fieldLink RX5 18 "PenniesAway$Realm" "kinds" "[I", .fieldLink RX5 21 "PenniesAway$Realm" "changing" "[I", .fieldLink RX5 24 "PenniesAway$Realm" "told" "Z", .fieldLink RX5 28 "PenniesAway$Realm" "leave" "I", .fieldLink RX5 32 "PenniesAway$Realm" "holders" "I", .fieldLink RX5 35 "PenniesAway$Realm" "coins" "I"] ++ wsX50)
def wsX5_takeFrom : List Cond := .code yX5_takeFrom cX5_takeFrom 2 none :: ([.fieldLink RX5 11 "PenniesAway$Realm" "ways" "[I", .methodLink RX5 45 arraycopyName, .native arraycopyName, .static arraycopyName, .initialized "java/lang/System", .fieldLink RX5 15 "PenniesAway$Realm" "towns" "[I", .fieldLink RX5 18 "PenniesAway$Realm" "kinds" "[I", .fieldLink RX5 21 "PenniesAway$Realm" "changing" "[I", .fieldLink RX5 24 "PenniesAway$Realm" "told" "Z", .fieldLink RX5 28 "PenniesAway$Realm" "leave" "I", .fieldLink RX5 32 "PenniesAway$Realm" "holders" "I", .fieldLink RX5 35 "PenniesAway$Realm" "coins" "I"] ++ wsX50)
def wsX5_today : List Cond := .code yX5_today cX5_today 1 (some .int) :: ([.fieldLink RX5 21 "PenniesAway$Realm" "changing" "[I"] ++ wsX50)
def wsX5_townOf : List Cond := .code yX5_townOf cX5_townOf 2 (some .int) :: ([.fieldLink RX5 15 "PenniesAway$Realm" "towns" "[I", .methodLink RX5 62 yX5_about, .instanceMethod yX5_about, .selects RX5 yX5_about yX5_about, .initialized RX5, .code yX5_about cX5_about 3 (some .int), .fieldLink RX5 21 "PenniesAway$Realm" "changing" "[I"] ++ wsX50)
def wsX5_withHolder : List Cond := .code yX5_withHolder cX5_withHolder 2 (some .boolean) :: ([.methodLink RX5 62 yX5_about, .instanceMethod yX5_about, .selects RX5 yX5_about yX5_about, .initialized RX5, .code yX5_about cX5_about 3 (some .int), .fieldLink RX5 21 "PenniesAway$Realm" "changing" "[I"] ++ wsX50)
def wsX5_underWay : List Cond := .code yX5_underWay cX5_underWay 2 (some .boolean) :: ([.methodLink RX5 62 yX5_about, .instanceMethod yX5_about, .selects RX5 yX5_about yX5_about, .initialized RX5, .code yX5_about cX5_about 3 (some .int), .fieldLink RX5 21 "PenniesAway$Realm" "changing" "[I"] ++ wsX50)
def wsX5_forged : List Cond := .code yX5_forged cX5_forged 2 (some .boolean) :: ([.fieldLink RX5 18 "PenniesAway$Realm" "kinds" "[I"] ++ wsX50)
def wsX5_dumb : List Cond := .code yX5_dumb cX5_dumb 2 (some .boolean) :: ([.methodLink RX5 62 yX5_about, .instanceMethod yX5_about, .selects RX5 yX5_about yX5_about, .initialized RX5, .code yX5_about cX5_about 3 (some .int), .fieldLink RX5 21 "PenniesAway$Realm" "changing" "[I"] ++ wsX50)
def wsX5_howMany : List Cond := .code yX5_howMany cX5_howMany 5 (some .int) :: ([.fieldLink RX5 35 "PenniesAway$Realm" "coins" "I", .methodLink RX5 62 yX5_about, .instanceMethod yX5_about, .selects RX5 yX5_about yX5_about, .initialized RX5, .code yX5_about cX5_about 3 (some .int), .fieldLink RX5 21 "PenniesAway$Realm" "changing" "[I"] ++ wsX50)
def wsX5_canGoHome : List Cond := .code yX5_canGoHome cX5_canGoHome 2 (some .boolean) :: ([.constant RX5 61 (-1000000), .methodLink RX5 67 yX5_withHolder, .instanceMethod yX5_withHolder, .selects RX5 yX5_withHolder yX5_withHolder, .initialized RX5, .code yX5_withHolder cX5_withHolder 2 (some .boolean), .methodLink RX5 62 yX5_about, .instanceMethod yX5_about, .selects RX5 yX5_about yX5_about, .code yX5_about cX5_about 3 (some .int), .fieldLink RX5 21 "PenniesAway$Realm" "changing" "[I", .methodLink RX5 71 yX5_townOf, .instanceMethod yX5_townOf, .selects RX5 yX5_townOf yX5_townOf, .code yX5_townOf cX5_townOf 2 (some .int), .fieldLink RX5 15 "PenniesAway$Realm" "towns" "[I", .methodLink RX5 75 yX5_distance, .instanceMethod yX5_distance, .selects RX5 yX5_distance yX5_distance, .code yX5_distance cX5_distance 4 (some .int), .fieldLink RX5 11 "PenniesAway$Realm" "ways" "[I", .constant RX5 38 (1000000)] ++ wsX50)
def wsX5_startHome : List Cond := .code yX5_startHome cX5_startHome 3 (some .int) :: ([.methodLink RX5 71 yX5_townOf, .instanceMethod yX5_townOf, .selects RX5 yX5_townOf yX5_townOf, .initialized RX5, .code yX5_townOf cX5_townOf 2 (some .int), .fieldLink RX5 15 "PenniesAway$Realm" "towns" "[I", .methodLink RX5 62 yX5_about, .instanceMethod yX5_about, .selects RX5 yX5_about yX5_about, .code yX5_about cX5_about 3 (some .int), .fieldLink RX5 21 "PenniesAway$Realm" "changing" "[I", .methodLink RX5 75 yX5_distance, .instanceMethod yX5_distance, .selects RX5 yX5_distance yX5_distance, .code yX5_distance cX5_distance 4 (some .int), .fieldLink RX5 11 "PenniesAway$Realm" "ways" "[I", .constant RX5 38 (1000000), .constant RX5 61 (-1000000), .methodLink RX5 57 yX5_put, .instanceMethod yX5_put, .selects RX5 yX5_put yX5_put, .code yX5_put cX5_put 4 none] ++ wsX50)
def wsX5_travel_r1 : List Cond := [Cond.methodLink RX5 62 yX5_about, Cond.instanceMethod yX5_about, Cond.selects RX5 yX5_about yX5_about, Cond.initialized RX5, Cond.code yX5_about cX5_about 3 (some .int), Cond.fieldLink RX5 21 "PenniesAway$Realm" "changing" "[I", Cond.methodLink RX5 57 yX5_put, Cond.instanceMethod yX5_put, Cond.selects RX5 yX5_put yX5_put, Cond.code yX5_put cX5_put 4 none, Cond.methodLink RX5 78 yX5_dumb, Cond.instanceMethod yX5_dumb, Cond.selects RX5 yX5_dumb yX5_dumb, Cond.code yX5_dumb cX5_dumb 2 (some .boolean), Cond.methodLink RX5 88 yX5_forged, Cond.instanceMethod yX5_forged, Cond.selects RX5 yX5_forged yX5_forged, Cond.code yX5_forged cX5_forged 2 (some .boolean), Cond.fieldLink RX5 18 "PenniesAway$Realm" "kinds" "[I", Cond.methodLink RX5 71 yX5_townOf, Cond.instanceMethod yX5_townOf, Cond.selects RX5 yX5_townOf yX5_townOf, Cond.code yX5_townOf cX5_townOf 2 (some .int), Cond.fieldLink RX5 15 "PenniesAway$Realm" "towns" "[I"]
def wsX5_travel_r2 : List Cond := [Cond.methodLink RX5 75 yX5_distance, Cond.instanceMethod yX5_distance, Cond.selects RX5 yX5_distance yX5_distance, Cond.code yX5_distance cX5_distance 4 (some .int), Cond.fieldLink RX5 11 "PenniesAway$Realm" "ways" "[I", Cond.constant RX5 38 (1000000), Cond.constant RX5 61 (-1000000)]
def wsX5_travel : List Cond := .code yX5_travel cX5_travel 2 none :: ((wsX5_travel_r1 ++ wsX5_travel_r2) ++ wsX50)
def wsX5_liveDay_r1 : List Cond := [Cond.fieldLink RX5 21 "PenniesAway$Realm" "changing" "[I", Cond.fieldLink RX5 35 "PenniesAway$Realm" "coins" "I", Cond.methodLink RX5 78 yX5_dumb, Cond.instanceMethod yX5_dumb, Cond.selects RX5 yX5_dumb yX5_dumb, Cond.initialized RX5, Cond.code yX5_dumb cX5_dumb 2 (some .boolean), Cond.methodLink RX5 62 yX5_about, Cond.instanceMethod yX5_about, Cond.selects RX5 yX5_about yX5_about, Cond.code yX5_about cX5_about 3 (some .int), Cond.methodLink RX5 57 yX5_put, Cond.instanceMethod yX5_put, Cond.selects RX5 yX5_put yX5_put, Cond.code yX5_put cX5_put 4 none, Cond.methodLink RX5 81 yX5_underWay, Cond.instanceMethod yX5_underWay, Cond.selects RX5 yX5_underWay yX5_underWay, Cond.code yX5_underWay cX5_underWay 2 (some .boolean), Cond.methodLink RX5 84 yX5_travel, Cond.instanceMethod yX5_travel, Cond.selects RX5 yX5_travel yX5_travel, Cond.code yX5_travel cX5_travel 2 none, Cond.methodLink RX5 88 yX5_forged]
def wsX5_liveDay_r2 : List Cond := [Cond.instanceMethod yX5_forged, Cond.selects RX5 yX5_forged yX5_forged, Cond.code yX5_forged cX5_forged 2 (some .boolean), Cond.fieldLink RX5 18 "PenniesAway$Realm" "kinds" "[I", Cond.methodLink RX5 71 yX5_townOf, Cond.instanceMethod yX5_townOf, Cond.selects RX5 yX5_townOf yX5_townOf, Cond.code yX5_townOf cX5_townOf 2 (some .int), Cond.fieldLink RX5 15 "PenniesAway$Realm" "towns" "[I", Cond.methodLink RX5 75 yX5_distance, Cond.instanceMethod yX5_distance, Cond.selects RX5 yX5_distance yX5_distance, Cond.code yX5_distance cX5_distance 4 (some .int), Cond.fieldLink RX5 11 "PenniesAway$Realm" "ways" "[I", Cond.constant RX5 38 (1000000), Cond.constant RX5 61 (-1000000), Cond.methodLink RX5 91 yX5_spanOf, Cond.instanceMethod yX5_spanOf, Cond.selects RX5 yX5_spanOf yX5_spanOf, Cond.code yX5_spanOf cX5_spanOf 2 (some .int), Cond.fieldLink RX5 28 "PenniesAway$Realm" "leave" "I"]
def wsX5_liveDay : List Cond := .code yX5_liveDay cX5_liveDay 3 (some .int) :: ((wsX5_liveDay_r1 ++ wsX5_liveDay_r2) ++ wsX50)
def wsX5_holdUp : List Cond := .code yX5_holdUp cX5_holdUp 7 (some .int) :: ([.fieldLink RX5 35 "PenniesAway$Realm" "coins" "I", .constantLong RX5 94 (16807), .constantLong RX5 96 (2147483647), .constantLong RX5 98 (10), .methodLink RX5 81 yX5_underWay, .instanceMethod yX5_underWay, .selects RX5 yX5_underWay yX5_underWay, .initialized RX5, .code yX5_underWay cX5_underWay 2 (some .boolean), .methodLink RX5 62 yX5_about, .instanceMethod yX5_about, .selects RX5 yX5_about yX5_about, .code yX5_about cX5_about 3 (some .int), .fieldLink RX5 21 "PenniesAway$Realm" "changing" "[I", .methodLink RX5 57 yX5_put, .instanceMethod yX5_put, .selects RX5 yX5_put yX5_put, .code yX5_put cX5_put 4 none] ++ wsX50)
def wsX5_slackWithMint_r1 : List Cond := [Cond.constant RX5 61 (-1000000), Cond.fieldLink RX5 11 "PenniesAway$Realm" "ways" "[I", Cond.methodLink RX5 51 Lib.Math.min.name, Cond.static Lib.Math.min.name, Cond.initialized "java/lang/Math", Cond.code Lib.Math.min.name Lib.Math.min.code 2 (some .int), Cond.constant RX5 38 (1000000), Cond.methodLink RX5 78 yX5_dumb, Cond.instanceMethod yX5_dumb, Cond.selects RX5 yX5_dumb yX5_dumb, Cond.initialized RX5, Cond.code yX5_dumb cX5_dumb 2 (some .boolean), Cond.methodLink RX5 62 yX5_about, Cond.instanceMethod yX5_about, Cond.selects RX5 yX5_about yX5_about, Cond.code yX5_about cX5_about 3 (some .int), Cond.fieldLink RX5 21 "PenniesAway$Realm" "changing" "[I", Cond.methodLink RX5 88 yX5_forged, Cond.instanceMethod yX5_forged, Cond.selects RX5 yX5_forged yX5_forged, Cond.code yX5_forged cX5_forged 2 (some .boolean), Cond.fieldLink RX5 18 "PenniesAway$Realm" "kinds" "[I", Cond.methodLink RX5 71 yX5_townOf, Cond.instanceMethod yX5_townOf]
def wsX5_slackWithMint_r2 : List Cond := [Cond.selects RX5 yX5_townOf yX5_townOf, Cond.code yX5_townOf cX5_townOf 2 (some .int), Cond.fieldLink RX5 15 "PenniesAway$Realm" "towns" "[I", Cond.methodLink RX5 67 yX5_withHolder, Cond.instanceMethod yX5_withHolder, Cond.selects RX5 yX5_withHolder yX5_withHolder, Cond.code yX5_withHolder cX5_withHolder 2 (some .boolean), Cond.methodLink RX5 91 yX5_spanOf, Cond.instanceMethod yX5_spanOf, Cond.selects RX5 yX5_spanOf yX5_spanOf, Cond.code yX5_spanOf cX5_spanOf 2 (some .int), Cond.fieldLink RX5 28 "PenniesAway$Realm" "leave" "I"]
def wsX5_slackWithMint : List Cond := .code yX5_slackWithMint cX5_slackWithMint 5 (some .int) :: ((wsX5_slackWithMint_r1 ++ wsX5_slackWithMint_r2) ++ wsX50)
def wsX5_slackOf_r1 : List Cond := [Cond.methodLink RX5 100 yX5_slackWithMint, Cond.instanceMethod yX5_slackWithMint, Cond.selects RX5 yX5_slackWithMint yX5_slackWithMint, Cond.initialized RX5, Cond.code yX5_slackWithMint cX5_slackWithMint 5 (some .int), Cond.constant RX5 61 (-1000000), Cond.fieldLink RX5 11 "PenniesAway$Realm" "ways" "[I", Cond.methodLink RX5 51 Lib.Math.min.name, Cond.static Lib.Math.min.name, Cond.initialized "java/lang/Math", Cond.code Lib.Math.min.name Lib.Math.min.code 2 (some .int), Cond.constant RX5 38 (1000000), Cond.methodLink RX5 78 yX5_dumb, Cond.instanceMethod yX5_dumb, Cond.selects RX5 yX5_dumb yX5_dumb, Cond.code yX5_dumb cX5_dumb 2 (some .boolean), Cond.methodLink RX5 62 yX5_about, Cond.instanceMethod yX5_about, Cond.selects RX5 yX5_about yX5_about, Cond.code yX5_about cX5_about 3 (some .int), Cond.fieldLink RX5 21 "PenniesAway$Realm" "changing" "[I", Cond.methodLink RX5 88 yX5_forged, Cond.instanceMethod yX5_forged, Cond.selects RX5 yX5_forged yX5_forged]
def wsX5_slackOf_r2 : List Cond := [Cond.code yX5_forged cX5_forged 2 (some .boolean), Cond.fieldLink RX5 18 "PenniesAway$Realm" "kinds" "[I", Cond.methodLink RX5 71 yX5_townOf, Cond.instanceMethod yX5_townOf, Cond.selects RX5 yX5_townOf yX5_townOf, Cond.code yX5_townOf cX5_townOf 2 (some .int), Cond.fieldLink RX5 15 "PenniesAway$Realm" "towns" "[I", Cond.methodLink RX5 67 yX5_withHolder, Cond.instanceMethod yX5_withHolder, Cond.selects RX5 yX5_withHolder yX5_withHolder, Cond.code yX5_withHolder cX5_withHolder 2 (some .boolean), Cond.methodLink RX5 91 yX5_spanOf, Cond.instanceMethod yX5_spanOf, Cond.selects RX5 yX5_spanOf yX5_spanOf, Cond.code yX5_spanOf cX5_spanOf 2 (some .int), Cond.fieldLink RX5 28 "PenniesAway$Realm" "leave" "I"]
def wsX5_slackOf : List Cond := .code yX5_slackOf cX5_slackOf 2 (some .int) :: ((wsX5_slackOf_r1 ++ wsX5_slackOf_r2) ++ wsX50)
def wsX5_isLate : List Cond := .code yX5_isLate cX5_isLate 1 (some .boolean) :: ([.constant RX5 61 (-1000000)])
def wsX5_worthOf_r1 : List Cond := [Cond.methodLink RX5 103 yX5_slackOf, Cond.instanceMethod yX5_slackOf, Cond.selects RX5 yX5_slackOf yX5_slackOf, Cond.initialized RX5, Cond.code yX5_slackOf cX5_slackOf 2 (some .int), Cond.methodLink RX5 100 yX5_slackWithMint, Cond.instanceMethod yX5_slackWithMint, Cond.selects RX5 yX5_slackWithMint yX5_slackWithMint, Cond.code yX5_slackWithMint cX5_slackWithMint 5 (some .int), Cond.constant RX5 61 (-1000000), Cond.fieldLink RX5 11 "PenniesAway$Realm" "ways" "[I", Cond.methodLink RX5 51 Lib.Math.min.name, Cond.static Lib.Math.min.name, Cond.initialized "java/lang/Math", Cond.code Lib.Math.min.name Lib.Math.min.code 2 (some .int), Cond.constant RX5 38 (1000000), Cond.methodLink RX5 78 yX5_dumb, Cond.instanceMethod yX5_dumb, Cond.selects RX5 yX5_dumb yX5_dumb, Cond.code yX5_dumb cX5_dumb 2 (some .boolean), Cond.methodLink RX5 62 yX5_about, Cond.instanceMethod yX5_about, Cond.selects RX5 yX5_about yX5_about, Cond.code yX5_about cX5_about 3 (some .int)]
def wsX5_worthOf_r2 : List Cond := [Cond.fieldLink RX5 21 "PenniesAway$Realm" "changing" "[I", Cond.methodLink RX5 88 yX5_forged, Cond.instanceMethod yX5_forged, Cond.selects RX5 yX5_forged yX5_forged, Cond.code yX5_forged cX5_forged 2 (some .boolean), Cond.fieldLink RX5 18 "PenniesAway$Realm" "kinds" "[I", Cond.methodLink RX5 71 yX5_townOf, Cond.instanceMethod yX5_townOf, Cond.selects RX5 yX5_townOf yX5_townOf, Cond.code yX5_townOf cX5_townOf 2 (some .int), Cond.fieldLink RX5 15 "PenniesAway$Realm" "towns" "[I", Cond.methodLink RX5 67 yX5_withHolder, Cond.instanceMethod yX5_withHolder, Cond.selects RX5 yX5_withHolder yX5_withHolder, Cond.code yX5_withHolder cX5_withHolder 2 (some .boolean), Cond.methodLink RX5 91 yX5_spanOf, Cond.instanceMethod yX5_spanOf, Cond.selects RX5 yX5_spanOf yX5_spanOf, Cond.code yX5_spanOf cX5_spanOf 2 (some .int), Cond.fieldLink RX5 28 "PenniesAway$Realm" "leave" "I"]
def wsX5_worthOf : List Cond := .code yX5_worthOf cX5_worthOf 4 (some .int) :: ((wsX5_worthOf_r1 ++ wsX5_worthOf_r2) ++ wsX50)
def wsX5_lateCoins_r1 : List Cond := [Cond.fieldLink RX5 35 "PenniesAway$Realm" "coins" "I", Cond.methodLink RX5 103 yX5_slackOf, Cond.instanceMethod yX5_slackOf, Cond.selects RX5 yX5_slackOf yX5_slackOf, Cond.initialized RX5, Cond.code yX5_slackOf cX5_slackOf 2 (some .int), Cond.methodLink RX5 100 yX5_slackWithMint, Cond.instanceMethod yX5_slackWithMint, Cond.selects RX5 yX5_slackWithMint yX5_slackWithMint, Cond.code yX5_slackWithMint cX5_slackWithMint 5 (some .int), Cond.constant RX5 61 (-1000000), Cond.fieldLink RX5 11 "PenniesAway$Realm" "ways" "[I", Cond.methodLink RX5 51 Lib.Math.min.name, Cond.static Lib.Math.min.name, Cond.initialized "java/lang/Math", Cond.code Lib.Math.min.name Lib.Math.min.code 2 (some .int), Cond.constant RX5 38 (1000000), Cond.methodLink RX5 78 yX5_dumb, Cond.instanceMethod yX5_dumb, Cond.selects RX5 yX5_dumb yX5_dumb, Cond.code yX5_dumb cX5_dumb 2 (some .boolean), Cond.methodLink RX5 62 yX5_about, Cond.instanceMethod yX5_about, Cond.selects RX5 yX5_about yX5_about]
def wsX5_lateCoins_r2 : List Cond := [Cond.code yX5_about cX5_about 3 (some .int), Cond.fieldLink RX5 21 "PenniesAway$Realm" "changing" "[I", Cond.methodLink RX5 88 yX5_forged, Cond.instanceMethod yX5_forged, Cond.selects RX5 yX5_forged yX5_forged, Cond.code yX5_forged cX5_forged 2 (some .boolean), Cond.fieldLink RX5 18 "PenniesAway$Realm" "kinds" "[I", Cond.methodLink RX5 71 yX5_townOf, Cond.instanceMethod yX5_townOf, Cond.selects RX5 yX5_townOf yX5_townOf, Cond.code yX5_townOf cX5_townOf 2 (some .int), Cond.fieldLink RX5 15 "PenniesAway$Realm" "towns" "[I", Cond.methodLink RX5 67 yX5_withHolder, Cond.instanceMethod yX5_withHolder, Cond.selects RX5 yX5_withHolder yX5_withHolder, Cond.code yX5_withHolder cX5_withHolder 2 (some .boolean), Cond.methodLink RX5 91 yX5_spanOf, Cond.instanceMethod yX5_spanOf, Cond.selects RX5 yX5_spanOf yX5_spanOf, Cond.code yX5_spanOf cX5_spanOf 2 (some .int), Cond.fieldLink RX5 28 "PenniesAway$Realm" "leave" "I", Cond.methodLink RX5 106 yX5_isLate, Cond.static yX5_isLate, Cond.code yX5_isLate cX5_isLate 1 (some .boolean)]
def wsX5_lateCoins : List Cond := .code yX5_lateCoins cX5_lateCoins 3 (some .int) :: ((wsX5_lateCoins_r1 ++ wsX5_lateCoins_r2) ++ wsX50)
def wsX5_slackAtHolder_r1 : List Cond := [Cond.constant RX5 61 (-1000000), Cond.methodLink RX5 67 yX5_withHolder, Cond.instanceMethod yX5_withHolder, Cond.selects RX5 yX5_withHolder yX5_withHolder, Cond.initialized RX5, Cond.code yX5_withHolder cX5_withHolder 2 (some .boolean), Cond.methodLink RX5 62 yX5_about, Cond.instanceMethod yX5_about, Cond.selects RX5 yX5_about yX5_about, Cond.code yX5_about cX5_about 3 (some .int), Cond.fieldLink RX5 21 "PenniesAway$Realm" "changing" "[I", Cond.methodLink RX5 100 yX5_slackWithMint, Cond.instanceMethod yX5_slackWithMint, Cond.selects RX5 yX5_slackWithMint yX5_slackWithMint, Cond.code yX5_slackWithMint cX5_slackWithMint 5 (some .int), Cond.fieldLink RX5 11 "PenniesAway$Realm" "ways" "[I", Cond.methodLink RX5 51 Lib.Math.min.name, Cond.static Lib.Math.min.name, Cond.initialized "java/lang/Math", Cond.code Lib.Math.min.name Lib.Math.min.code 2 (some .int), Cond.constant RX5 38 (1000000), Cond.methodLink RX5 78 yX5_dumb, Cond.instanceMethod yX5_dumb, Cond.selects RX5 yX5_dumb yX5_dumb]
def wsX5_slackAtHolder_r2 : List Cond := [Cond.code yX5_dumb cX5_dumb 2 (some .boolean), Cond.methodLink RX5 88 yX5_forged, Cond.instanceMethod yX5_forged, Cond.selects RX5 yX5_forged yX5_forged, Cond.code yX5_forged cX5_forged 2 (some .boolean), Cond.fieldLink RX5 18 "PenniesAway$Realm" "kinds" "[I", Cond.methodLink RX5 71 yX5_townOf, Cond.instanceMethod yX5_townOf, Cond.selects RX5 yX5_townOf yX5_townOf, Cond.code yX5_townOf cX5_townOf 2 (some .int), Cond.fieldLink RX5 15 "PenniesAway$Realm" "towns" "[I", Cond.methodLink RX5 91 yX5_spanOf, Cond.instanceMethod yX5_spanOf, Cond.selects RX5 yX5_spanOf yX5_spanOf, Cond.code yX5_spanOf cX5_spanOf 2 (some .int), Cond.fieldLink RX5 28 "PenniesAway$Realm" "leave" "I"]
def wsX5_slackAtHolder : List Cond := .code yX5_slackAtHolder cX5_slackAtHolder 2 (some .int) :: ((wsX5_slackAtHolder_r1 ++ wsX5_slackAtHolder_r2) ++ wsX50)
def wsX5_coinsToGo_r1 : List Cond := [Cond.fieldLink RX5 35 "PenniesAway$Realm" "coins" "I", Cond.methodLink RX5 109 yX5_slackAtHolder, Cond.instanceMethod yX5_slackAtHolder, Cond.selects RX5 yX5_slackAtHolder yX5_slackAtHolder, Cond.initialized RX5, Cond.code yX5_slackAtHolder cX5_slackAtHolder 2 (some .int), Cond.constant RX5 61 (-1000000), Cond.methodLink RX5 67 yX5_withHolder, Cond.instanceMethod yX5_withHolder, Cond.selects RX5 yX5_withHolder yX5_withHolder, Cond.code yX5_withHolder cX5_withHolder 2 (some .boolean), Cond.methodLink RX5 62 yX5_about, Cond.instanceMethod yX5_about, Cond.selects RX5 yX5_about yX5_about, Cond.code yX5_about cX5_about 3 (some .int), Cond.fieldLink RX5 21 "PenniesAway$Realm" "changing" "[I", Cond.methodLink RX5 100 yX5_slackWithMint, Cond.instanceMethod yX5_slackWithMint, Cond.selects RX5 yX5_slackWithMint yX5_slackWithMint, Cond.code yX5_slackWithMint cX5_slackWithMint 5 (some .int), Cond.fieldLink RX5 11 "PenniesAway$Realm" "ways" "[I", Cond.methodLink RX5 51 Lib.Math.min.name, Cond.static Lib.Math.min.name, Cond.initialized "java/lang/Math"]
def wsX5_coinsToGo_r2 : List Cond := [Cond.code Lib.Math.min.name Lib.Math.min.code 2 (some .int), Cond.constant RX5 38 (1000000), Cond.methodLink RX5 78 yX5_dumb, Cond.instanceMethod yX5_dumb, Cond.selects RX5 yX5_dumb yX5_dumb, Cond.code yX5_dumb cX5_dumb 2 (some .boolean), Cond.methodLink RX5 88 yX5_forged, Cond.instanceMethod yX5_forged, Cond.selects RX5 yX5_forged yX5_forged, Cond.code yX5_forged cX5_forged 2 (some .boolean), Cond.fieldLink RX5 18 "PenniesAway$Realm" "kinds" "[I", Cond.methodLink RX5 71 yX5_townOf, Cond.instanceMethod yX5_townOf, Cond.selects RX5 yX5_townOf yX5_townOf, Cond.code yX5_townOf cX5_townOf 2 (some .int), Cond.fieldLink RX5 15 "PenniesAway$Realm" "towns" "[I", Cond.methodLink RX5 91 yX5_spanOf, Cond.instanceMethod yX5_spanOf, Cond.selects RX5 yX5_spanOf yX5_spanOf, Cond.code yX5_spanOf cX5_spanOf 2 (some .int), Cond.fieldLink RX5 28 "PenniesAway$Realm" "leave" "I"]
def wsX5_coinsToGo : List Cond := .code yX5_coinsToGo cX5_coinsToGo 5 (some .int) :: ((wsX5_coinsToGo_r1 ++ wsX5_coinsToGo_r2) ++ wsX50)
def wsX5_mostPressing_r1 : List Cond := [Cond.constant RX5 38 (1000000), Cond.fieldLink RX5 35 "PenniesAway$Realm" "coins" "I", Cond.methodLink RX5 109 yX5_slackAtHolder, Cond.instanceMethod yX5_slackAtHolder, Cond.selects RX5 yX5_slackAtHolder yX5_slackAtHolder, Cond.initialized RX5, Cond.code yX5_slackAtHolder cX5_slackAtHolder 2 (some .int), Cond.constant RX5 61 (-1000000), Cond.methodLink RX5 67 yX5_withHolder, Cond.instanceMethod yX5_withHolder, Cond.selects RX5 yX5_withHolder yX5_withHolder, Cond.code yX5_withHolder cX5_withHolder 2 (some .boolean), Cond.methodLink RX5 62 yX5_about, Cond.instanceMethod yX5_about, Cond.selects RX5 yX5_about yX5_about, Cond.code yX5_about cX5_about 3 (some .int), Cond.fieldLink RX5 21 "PenniesAway$Realm" "changing" "[I", Cond.methodLink RX5 100 yX5_slackWithMint, Cond.instanceMethod yX5_slackWithMint, Cond.selects RX5 yX5_slackWithMint yX5_slackWithMint, Cond.code yX5_slackWithMint cX5_slackWithMint 5 (some .int), Cond.fieldLink RX5 11 "PenniesAway$Realm" "ways" "[I", Cond.methodLink RX5 51 Lib.Math.min.name, Cond.static Lib.Math.min.name]
def wsX5_mostPressing_r2 : List Cond := [Cond.initialized "java/lang/Math", Cond.code Lib.Math.min.name Lib.Math.min.code 2 (some .int), Cond.methodLink RX5 78 yX5_dumb, Cond.instanceMethod yX5_dumb, Cond.selects RX5 yX5_dumb yX5_dumb, Cond.code yX5_dumb cX5_dumb 2 (some .boolean), Cond.methodLink RX5 88 yX5_forged, Cond.instanceMethod yX5_forged, Cond.selects RX5 yX5_forged yX5_forged, Cond.code yX5_forged cX5_forged 2 (some .boolean), Cond.fieldLink RX5 18 "PenniesAway$Realm" "kinds" "[I", Cond.methodLink RX5 71 yX5_townOf, Cond.instanceMethod yX5_townOf, Cond.selects RX5 yX5_townOf yX5_townOf, Cond.code yX5_townOf cX5_townOf 2 (some .int), Cond.fieldLink RX5 15 "PenniesAway$Realm" "towns" "[I", Cond.methodLink RX5 91 yX5_spanOf, Cond.instanceMethod yX5_spanOf, Cond.selects RX5 yX5_spanOf yX5_spanOf, Cond.code yX5_spanOf cX5_spanOf 2 (some .int), Cond.fieldLink RX5 28 "PenniesAway$Realm" "leave" "I"]
def wsX5_mostPressing : List Cond := .code yX5_mostPressing cX5_mostPressing 6 (some .int) :: ((wsX5_mostPressing_r1 ++ wsX5_mostPressing_r2) ++ wsX50)
def wsX5_coinsForMessengers_r1 : List Cond := [Cond.methodLink RX5 112 yX5_mostPressing, Cond.instanceMethod yX5_mostPressing, Cond.selects RX5 yX5_mostPressing yX5_mostPressing, Cond.initialized RX5, Cond.code yX5_mostPressing cX5_mostPressing 6 (some .int), Cond.constant RX5 38 (1000000), Cond.fieldLink RX5 35 "PenniesAway$Realm" "coins" "I", Cond.methodLink RX5 109 yX5_slackAtHolder, Cond.instanceMethod yX5_slackAtHolder, Cond.selects RX5 yX5_slackAtHolder yX5_slackAtHolder, Cond.code yX5_slackAtHolder cX5_slackAtHolder 2 (some .int), Cond.constant RX5 61 (-1000000), Cond.methodLink RX5 67 yX5_withHolder, Cond.instanceMethod yX5_withHolder, Cond.selects RX5 yX5_withHolder yX5_withHolder, Cond.code yX5_withHolder cX5_withHolder 2 (some .boolean), Cond.methodLink RX5 62 yX5_about, Cond.instanceMethod yX5_about, Cond.selects RX5 yX5_about yX5_about, Cond.code yX5_about cX5_about 3 (some .int), Cond.fieldLink RX5 21 "PenniesAway$Realm" "changing" "[I", Cond.methodLink RX5 100 yX5_slackWithMint, Cond.instanceMethod yX5_slackWithMint, Cond.selects RX5 yX5_slackWithMint yX5_slackWithMint]
def wsX5_coinsForMessengers_r2 : List Cond := [Cond.code yX5_slackWithMint cX5_slackWithMint 5 (some .int), Cond.fieldLink RX5 11 "PenniesAway$Realm" "ways" "[I", Cond.methodLink RX5 51 Lib.Math.min.name, Cond.static Lib.Math.min.name, Cond.initialized "java/lang/Math", Cond.code Lib.Math.min.name Lib.Math.min.code 2 (some .int), Cond.methodLink RX5 78 yX5_dumb, Cond.instanceMethod yX5_dumb, Cond.selects RX5 yX5_dumb yX5_dumb, Cond.code yX5_dumb cX5_dumb 2 (some .boolean), Cond.methodLink RX5 88 yX5_forged, Cond.instanceMethod yX5_forged, Cond.selects RX5 yX5_forged yX5_forged, Cond.code yX5_forged cX5_forged 2 (some .boolean), Cond.fieldLink RX5 18 "PenniesAway$Realm" "kinds" "[I", Cond.methodLink RX5 71 yX5_townOf, Cond.instanceMethod yX5_townOf, Cond.selects RX5 yX5_townOf yX5_townOf, Cond.code yX5_townOf cX5_townOf 2 (some .int), Cond.fieldLink RX5 15 "PenniesAway$Realm" "towns" "[I", Cond.methodLink RX5 91 yX5_spanOf, Cond.instanceMethod yX5_spanOf, Cond.selects RX5 yX5_spanOf yX5_spanOf, Cond.code yX5_spanOf cX5_spanOf 2 (some .int)]
def wsX5_coinsForMessengers_r3 : List Cond := [Cond.fieldLink RX5 28 "PenniesAway$Realm" "leave" "I"]
def wsX5_coinsForMessengers : List Cond := .code yX5_coinsForMessengers cX5_coinsForMessengers 4 (some .int) :: ((wsX5_coinsForMessengers_r1 ++ (wsX5_coinsForMessengers_r2 ++ wsX5_coinsForMessengers_r3)) ++ wsX50)
def wsX5_savedByTour_r1 : List Cond := [Cond.fieldLink RX5 35 "PenniesAway$Realm" "coins" "I", Cond.methodLink RX5 67 yX5_withHolder, Cond.instanceMethod yX5_withHolder, Cond.selects RX5 yX5_withHolder yX5_withHolder, Cond.initialized RX5, Cond.code yX5_withHolder cX5_withHolder 2 (some .boolean), Cond.methodLink RX5 62 yX5_about, Cond.instanceMethod yX5_about, Cond.selects RX5 yX5_about yX5_about, Cond.code yX5_about cX5_about 3 (some .int), Cond.fieldLink RX5 21 "PenniesAway$Realm" "changing" "[I", Cond.methodLink RX5 88 yX5_forged, Cond.instanceMethod yX5_forged, Cond.selects RX5 yX5_forged yX5_forged, Cond.code yX5_forged cX5_forged 2 (some .boolean), Cond.fieldLink RX5 18 "PenniesAway$Realm" "kinds" "[I", Cond.methodLink RX5 78 yX5_dumb, Cond.instanceMethod yX5_dumb, Cond.selects RX5 yX5_dumb yX5_dumb, Cond.code yX5_dumb cX5_dumb 2 (some .boolean), Cond.methodLink RX5 91 yX5_spanOf, Cond.instanceMethod yX5_spanOf, Cond.selects RX5 yX5_spanOf yX5_spanOf, Cond.code yX5_spanOf cX5_spanOf 2 (some .int)]
def wsX5_savedByTour_r2 : List Cond := [Cond.fieldLink RX5 28 "PenniesAway$Realm" "leave" "I"]
def wsX5_savedByTour : List Cond := .code yX5_savedByTour cX5_savedByTour 6 (some .int) :: ((wsX5_savedByTour_r1 ++ wsX5_savedByTour_r2) ++ wsX50)
def wsX5_lateWithMint_r1 : List Cond := [Cond.fieldLink RX5 35 "PenniesAway$Realm" "coins" "I", Cond.methodLink RX5 100 yX5_slackWithMint, Cond.instanceMethod yX5_slackWithMint, Cond.selects RX5 yX5_slackWithMint yX5_slackWithMint, Cond.initialized RX5, Cond.code yX5_slackWithMint cX5_slackWithMint 5 (some .int), Cond.constant RX5 61 (-1000000), Cond.fieldLink RX5 11 "PenniesAway$Realm" "ways" "[I", Cond.methodLink RX5 51 Lib.Math.min.name, Cond.static Lib.Math.min.name, Cond.initialized "java/lang/Math", Cond.code Lib.Math.min.name Lib.Math.min.code 2 (some .int), Cond.constant RX5 38 (1000000), Cond.methodLink RX5 78 yX5_dumb, Cond.instanceMethod yX5_dumb, Cond.selects RX5 yX5_dumb yX5_dumb, Cond.code yX5_dumb cX5_dumb 2 (some .boolean), Cond.methodLink RX5 62 yX5_about, Cond.instanceMethod yX5_about, Cond.selects RX5 yX5_about yX5_about, Cond.code yX5_about cX5_about 3 (some .int), Cond.fieldLink RX5 21 "PenniesAway$Realm" "changing" "[I", Cond.methodLink RX5 88 yX5_forged, Cond.instanceMethod yX5_forged]
def wsX5_lateWithMint_r2 : List Cond := [Cond.selects RX5 yX5_forged yX5_forged, Cond.code yX5_forged cX5_forged 2 (some .boolean), Cond.fieldLink RX5 18 "PenniesAway$Realm" "kinds" "[I", Cond.methodLink RX5 71 yX5_townOf, Cond.instanceMethod yX5_townOf, Cond.selects RX5 yX5_townOf yX5_townOf, Cond.code yX5_townOf cX5_townOf 2 (some .int), Cond.fieldLink RX5 15 "PenniesAway$Realm" "towns" "[I", Cond.methodLink RX5 67 yX5_withHolder, Cond.instanceMethod yX5_withHolder, Cond.selects RX5 yX5_withHolder yX5_withHolder, Cond.code yX5_withHolder cX5_withHolder 2 (some .boolean), Cond.methodLink RX5 91 yX5_spanOf, Cond.instanceMethod yX5_spanOf, Cond.selects RX5 yX5_spanOf yX5_spanOf, Cond.code yX5_spanOf cX5_spanOf 2 (some .int), Cond.fieldLink RX5 28 "PenniesAway$Realm" "leave" "I", Cond.methodLink RX5 106 yX5_isLate, Cond.static yX5_isLate, Cond.code yX5_isLate cX5_isLate 1 (some .boolean)]
def wsX5_lateWithMint : List Cond := .code yX5_lateWithMint cX5_lateWithMint 4 (some .int) :: ((wsX5_lateWithMint_r1 ++ wsX5_lateWithMint_r2) ++ wsX50)
def wsX5_bestSecondMint_r1 : List Cond := [Cond.methodLink RX5 115 yX5_lateWithMint, Cond.instanceMethod yX5_lateWithMint, Cond.selects RX5 yX5_lateWithMint yX5_lateWithMint, Cond.initialized RX5, Cond.code yX5_lateWithMint cX5_lateWithMint 4 (some .int), Cond.fieldLink RX5 35 "PenniesAway$Realm" "coins" "I", Cond.methodLink RX5 100 yX5_slackWithMint, Cond.instanceMethod yX5_slackWithMint, Cond.selects RX5 yX5_slackWithMint yX5_slackWithMint, Cond.code yX5_slackWithMint cX5_slackWithMint 5 (some .int), Cond.constant RX5 61 (-1000000), Cond.fieldLink RX5 11 "PenniesAway$Realm" "ways" "[I", Cond.methodLink RX5 51 Lib.Math.min.name, Cond.static Lib.Math.min.name, Cond.initialized "java/lang/Math", Cond.code Lib.Math.min.name Lib.Math.min.code 2 (some .int), Cond.constant RX5 38 (1000000), Cond.methodLink RX5 78 yX5_dumb, Cond.instanceMethod yX5_dumb, Cond.selects RX5 yX5_dumb yX5_dumb, Cond.code yX5_dumb cX5_dumb 2 (some .boolean), Cond.methodLink RX5 62 yX5_about, Cond.instanceMethod yX5_about, Cond.selects RX5 yX5_about yX5_about]
def wsX5_bestSecondMint_r2 : List Cond := [Cond.code yX5_about cX5_about 3 (some .int), Cond.fieldLink RX5 21 "PenniesAway$Realm" "changing" "[I", Cond.methodLink RX5 88 yX5_forged, Cond.instanceMethod yX5_forged, Cond.selects RX5 yX5_forged yX5_forged, Cond.code yX5_forged cX5_forged 2 (some .boolean), Cond.fieldLink RX5 18 "PenniesAway$Realm" "kinds" "[I", Cond.methodLink RX5 71 yX5_townOf, Cond.instanceMethod yX5_townOf, Cond.selects RX5 yX5_townOf yX5_townOf, Cond.code yX5_townOf cX5_townOf 2 (some .int), Cond.fieldLink RX5 15 "PenniesAway$Realm" "towns" "[I", Cond.methodLink RX5 67 yX5_withHolder, Cond.instanceMethod yX5_withHolder, Cond.selects RX5 yX5_withHolder yX5_withHolder, Cond.code yX5_withHolder cX5_withHolder 2 (some .boolean), Cond.methodLink RX5 91 yX5_spanOf, Cond.instanceMethod yX5_spanOf, Cond.selects RX5 yX5_spanOf yX5_spanOf, Cond.code yX5_spanOf cX5_spanOf 2 (some .int), Cond.fieldLink RX5 28 "PenniesAway$Realm" "leave" "I", Cond.methodLink RX5 106 yX5_isLate, Cond.static yX5_isLate, Cond.code yX5_isLate cX5_isLate 1 (some .boolean)]
def wsX5_bestSecondMint : List Cond := .code yX5_bestSecondMint cX5_bestSecondMint 3 (some .int) :: ((wsX5_bestSecondMint_r1 ++ wsX5_bestSecondMint_r2) ++ wsX50)
def wsX5_soundsAfter : List Cond := .code yX5_soundsAfter cX5_soundsAfter 3 (some .boolean) :: ([.methodLink RX5 78 yX5_dumb, .instanceMethod yX5_dumb, .selects RX5 yX5_dumb yX5_dumb, .initialized RX5, .code yX5_dumb cX5_dumb 2 (some .boolean), .methodLink RX5 62 yX5_about, .instanceMethod yX5_about, .selects RX5 yX5_about yX5_about, .code yX5_about cX5_about 3 (some .int), .fieldLink RX5 21 "PenniesAway$Realm" "changing" "[I", .methodLink RX5 88 yX5_forged, .instanceMethod yX5_forged, .selects RX5 yX5_forged yX5_forged, .code yX5_forged cX5_forged 2 (some .boolean), .fieldLink RX5 18 "PenniesAway$Realm" "kinds" "[I", .methodLink RX5 91 yX5_spanOf, .instanceMethod yX5_spanOf, .selects RX5 yX5_spanOf yX5_spanOf, .code yX5_spanOf cX5_spanOf 2 (some .int), .fieldLink RX5 28 "PenniesAway$Realm" "leave" "I"] ++ wsX50)
def wsX5_soundingIn_r1 : List Cond := [Cond.fieldLink RX5 35 "PenniesAway$Realm" "coins" "I", Cond.methodLink RX5 67 yX5_withHolder, Cond.instanceMethod yX5_withHolder, Cond.selects RX5 yX5_withHolder yX5_withHolder, Cond.initialized RX5, Cond.code yX5_withHolder cX5_withHolder 2 (some .boolean), Cond.methodLink RX5 62 yX5_about, Cond.instanceMethod yX5_about, Cond.selects RX5 yX5_about yX5_about, Cond.code yX5_about cX5_about 3 (some .int), Cond.fieldLink RX5 21 "PenniesAway$Realm" "changing" "[I", Cond.methodLink RX5 71 yX5_townOf, Cond.instanceMethod yX5_townOf, Cond.selects RX5 yX5_townOf yX5_townOf, Cond.code yX5_townOf cX5_townOf 2 (some .int), Cond.fieldLink RX5 15 "PenniesAway$Realm" "towns" "[I", Cond.methodLink RX5 118 yX5_soundsAfter, Cond.instanceMethod yX5_soundsAfter, Cond.selects RX5 yX5_soundsAfter yX5_soundsAfter, Cond.code yX5_soundsAfter cX5_soundsAfter 3 (some .boolean), Cond.methodLink RX5 78 yX5_dumb, Cond.instanceMethod yX5_dumb, Cond.selects RX5 yX5_dumb yX5_dumb, Cond.code yX5_dumb cX5_dumb 2 (some .boolean)]
def wsX5_soundingIn_r2 : List Cond := [Cond.methodLink RX5 88 yX5_forged, Cond.instanceMethod yX5_forged, Cond.selects RX5 yX5_forged yX5_forged, Cond.code yX5_forged cX5_forged 2 (some .boolean), Cond.fieldLink RX5 18 "PenniesAway$Realm" "kinds" "[I", Cond.methodLink RX5 91 yX5_spanOf, Cond.instanceMethod yX5_spanOf, Cond.selects RX5 yX5_spanOf yX5_spanOf, Cond.code yX5_spanOf cX5_spanOf 2 (some .int), Cond.fieldLink RX5 28 "PenniesAway$Realm" "leave" "I"]
def wsX5_soundingIn : List Cond := .code yX5_soundingIn cX5_soundingIn 5 (some .int) :: ((wsX5_soundingIn_r1 ++ wsX5_soundingIn_r2) ++ wsX50)
def wsX6_init : List Cond := .code yX6_init cX6_init 1 none :: ([.methodLink RX6 1 objectInit, .instanceMethod objectInit, .code objectInit ⟨#[0xb1]⟩ 1 none, .arrayClass .int, .fieldLink RX6 9 "PenniesAway$Row" "items" "[I", .fieldLink RX6 13 "PenniesAway$Row" "lane" "I", .fieldLink RX6 17 "PenniesAway$Row" "size" "I"] ++ wsX60)
def wsX6_missing : List Cond := .code yX6_missing cX6_missing 1 (some .boolean) :: ([.fieldLink RX6 13 "PenniesAway$Row" "lane" "I"] ++ wsX60)
def wsX6_lay : List Cond := .code yX6_lay cX6_lay 3 none :: ([.fieldLink RX6 9 "PenniesAway$Row" "items" "[I", .fieldLink RX6 13 "PenniesAway$Row" "lane" "I", .fieldLink RX6 17 "PenniesAway$Row" "size" "I", .methodLink RX6 20 yJ7_fill_53178, .static yJ7_fill_53178, .initialized RJ7, .code yJ7_fill_53178 cJ7_fill_53178 4 none] ++ wsX60)
def wsX6_takeAway : List Cond := .code yX6_takeAway cX6_takeAway 1 none :: ([.fieldLink RX6 13 "PenniesAway$Row" "lane" "I", .fieldLink RX6 17 "PenniesAway$Row" "size" "I"] ++ wsX60)
def wsX6_holds : List Cond := .code yX6_holds cX6_holds 3 (some .boolean) :: ([.fieldLink RX6 17 "PenniesAway$Row" "size" "I"] ++ wsX60)
def wsX6_put : List Cond := .code yX6_put cX6_put 4 (some .int) :: ([.fieldLink RX6 13 "PenniesAway$Row" "lane" "I", .fieldLink RX6 9 "PenniesAway$Row" "items" "[I"] ++ wsX60)
def wsX7_append : List Cond := .code yX7_append cX7_append 5 none :: ([.fieldLink RX7 9 "PenniesAway$Tape" "bytes" "[B", .fieldLink RX7 13 "PenniesAway$Tape" "length" "I"] ++ wsX70)
def wsX7_empty : List Cond := .code yX7_empty cX7_empty 1 none :: ([.fieldLink RX7 13 "PenniesAway$Tape" "length" "I"] ++ wsX70)
def wsX8_init_r1 : List Cond := [Cond.methodLink RX8 1 objectInit, Cond.instanceMethod objectInit, Cond.code objectInit ⟨#[0xb1]⟩ 1 none, Cond.classLink RX8 9 RX6, Cond.fieldLink RX8 11 "PenniesAway" "rows" "[LPenniesAway$Row;", Cond.classLink RX8 15 RX5, Cond.fieldLink RX8 17 "PenniesAway" "images" "[LPenniesAway$Realm;", Cond.classLink RX8 21 RX4, Cond.instantiable RX4 4, Cond.initialized RX4, Cond.fieldLink RX8 24 "PenniesAway" "reader" "LPenniesAway$Reader;", Cond.fieldLink RX8 28 "PenniesAway$Reader" "text" "LPenniesAway$Tape;", Cond.fieldLink RX8 32 "PenniesAway" "tape" "LPenniesAway$Tape;", Cond.classLink RX8 35 RX0, Cond.instantiable RX0 3, Cond.initialized RX0, Cond.fieldLink RX8 38 "PenniesAway" "acts" "LPenniesAway$Acts;", Cond.classLink RX8 42 RX2, Cond.instantiable RX2 4, Cond.initialized RX2, Cond.fieldLink RX8 45 "PenniesAway" "carrier" "LPenniesAway$Carrier;", Cond.classLink RX8 49 RX1, Cond.instantiable RX1 6, Cond.initialized RX1]
def wsX8_init_r2 : List Cond := [Cond.fieldLink RX8 52 "PenniesAway" "asker" "LPenniesAway$Asker;", Cond.instantiable RX5 8, Cond.initialized RX5, Cond.fieldLink RX8 57 "PenniesAway" "kingdom" "LPenniesAway$Realm;", Cond.fieldLink RX8 61 "PenniesAway" "draft" "LPenniesAway$Realm;", Cond.fieldLink RX8 64 "PenniesAway" "latestFinding" "I", Cond.fieldLink RX8 68 "PenniesAway" "latestFault" "I", Cond.instantiable RX6 3, Cond.initialized RX6, Cond.instanceMethod yX4_init, Cond.code yX4_init cX4_init 1 none, Cond.methodLink RX4 1 objectInit, Cond.classLink RX4 7 RX7, Cond.instantiable RX7 6, Cond.initialized RX7, Cond.fieldLink RX4 10 "PenniesAway$Reader" "text" "LPenniesAway$Tape;", Cond.fieldLink RX4 16 "PenniesAway$Reader" "taken" "I", Cond.fieldLink RX4 20 "PenniesAway$Reader" "faultNumber" "I", Cond.fieldLink RX4 23 "PenniesAway$Reader" "faultPlace" "I", Cond.instanceMethod yX7_init, Cond.code yX7_init cX7_init 1 none, Cond.methodLink RX7 1 objectInit, Cond.arrayClass .byte, Cond.fieldLink RX7 9 "PenniesAway$Tape" "bytes" "[B"]
def wsX8_init_r3 : List Cond := [Cond.fieldLink RX7 13 "PenniesAway$Tape" "length" "I", Cond.fieldLink RX7 17 "PenniesAway$Tape" "sort" "I", Cond.fieldLink RX7 20 "PenniesAway$Tape" "start" "I", Cond.fieldLink RX7 23 "PenniesAway$Tape" "number" "I", Cond.fieldLink RX7 26 "PenniesAway$Tape" "end" "I", Cond.instanceMethod yX0_init, Cond.code yX0_init cX0_init 1 none, Cond.methodLink RX0 1 objectInit, Cond.classLink RX0 11 "[[I", Cond.arrayClass .int, Cond.fieldLink RX0 13 "PenniesAway$Acts" "before" "[[I", Cond.fieldLink RX0 16 "PenniesAway$Acts" "next" "I", Cond.fieldLink RX0 20 "PenniesAway$Acts" "kept" "I", Cond.instanceMethod yX2_init, Cond.code yX2_init cX2_init 1 none, Cond.methodLink RX2 3 objectInit, Cond.fieldLink RX2 11 "PenniesAway$Carrier" "order" "[I", Cond.fieldLink RX2 17 "PenniesAway$Carrier" "path" "[I", Cond.fieldLink RX2 20 "PenniesAway$Carrier" "stops" "I", Cond.constant RX2 24 (-1000000), Cond.fieldLink RX2 25 "PenniesAway$Carrier" "fewest" "I", Cond.instanceMethod yX1_init, Cond.code yX1_init cX1_init 1 none, Cond.methodLink RX1 3 objectInit]
def wsX8_init_r4 : List Cond := [Cond.fieldLink RX1 11 "PenniesAway$Asker" "notes" "[I", Cond.fieldLink RX1 15 "PenniesAway$Asker" "begun" "I", Cond.fieldLink RX1 19 "PenniesAway$Asker" "number" "I", Cond.fieldLink RX1 22 "PenniesAway$Asker" "kindAsked" "I", Cond.fieldLink RX1 25 "PenniesAway$Asker" "age" "I", Cond.fieldLink RX1 28 "PenniesAway$Asker" "span" "I", Cond.instanceMethod yX5_init, Cond.code yX5_init cX5_init 1 none, Cond.methodLink RX5 3 objectInit, Cond.fieldLink RX5 11 "PenniesAway$Realm" "ways" "[I", Cond.fieldLink RX5 15 "PenniesAway$Realm" "towns" "[I", Cond.fieldLink RX5 18 "PenniesAway$Realm" "kinds" "[I", Cond.fieldLink RX5 21 "PenniesAway$Realm" "changing" "[I", Cond.fieldLink RX5 24 "PenniesAway$Realm" "told" "Z", Cond.fieldLink RX5 28 "PenniesAway$Realm" "leave" "I", Cond.fieldLink RX5 32 "PenniesAway$Realm" "holders" "I", Cond.fieldLink RX5 35 "PenniesAway$Realm" "coins" "I", Cond.instanceMethod yX6_init, Cond.code yX6_init cX6_init 1 none, Cond.methodLink RX6 1 objectInit, Cond.fieldLink RX6 9 "PenniesAway$Row" "items" "[I", Cond.fieldLink RX6 13 "PenniesAway$Row" "lane" "I", Cond.fieldLink RX6 17 "PenniesAway$Row" "size" "I"]
def wsX8_init : List Cond := .code yX8_init cX8_init 2 none :: ((wsX8_init_r1 ++ (wsX8_init_r2 ++ (wsX8_init_r3 ++ wsX8_init_r4))) ++ wsX80 ++ wsX40 ++ wsX00 ++ wsX20 ++ wsX10 ++ wsX50 ++ wsX60 ++ wsX70)
def wsX8_noRow : List Cond := .code yX8_noRow cX8_noRow 1 (some .boolean) :: ([.methodLink RX8 76 yX8_outside, .static yX8_outside, .initialized RX8, .code yX8_outside cX8_outside 3 (some .boolean)])
def wsX8_found : List Cond := .code yX8_found cX8_found 2 (some .int) :: ([.fieldLink RX8 64 "PenniesAway" "latestFinding" "I", .constant RX8 281 (-1000010)] ++ wsX80)
def wsX8_answered : List Cond := .code yX8_answered cX8_answered 2 (some .int) :: ([.fieldLink RX8 64 "PenniesAway" "latestFinding" "I"] ++ wsX80)
def wsX8_row_r1 : List Cond := [Cond.constant RX8 80 (-1000001), Cond.fieldLink RX8 11 "PenniesAway" "rows" "[LPenniesAway$Row;", Cond.methodLink RX8 72 yX8_noRow, Cond.static yX8_noRow, Cond.initialized RX8, Cond.code yX8_noRow cX8_noRow 1 (some .boolean), Cond.methodLink RX8 76 yX8_outside, Cond.static yX8_outside, Cond.code yX8_outside cX8_outside 3 (some .boolean), Cond.methodLink RX8 81 yX8_found, Cond.instanceMethod yX8_found, Cond.selects RX8 yX8_found yX8_found, Cond.code yX8_found cX8_found 2 (some .int), Cond.fieldLink RX8 64 "PenniesAway" "latestFinding" "I", Cond.constant RX8 281 (-1000010), Cond.methodLink RX8 85 yX6_lay, Cond.instanceMethod yX6_lay, Cond.selects RX6 yX6_lay yX6_lay, Cond.initialized RX6, Cond.code yX6_lay cX6_lay 3 none, Cond.fieldLink RX6 9 "PenniesAway$Row" "items" "[I", Cond.fieldLink RX6 13 "PenniesAway$Row" "lane" "I", Cond.fieldLink RX6 17 "PenniesAway$Row" "size" "I", Cond.methodLink RX6 20 yJ7_fill_53178]
def wsX8_row_r2 : List Cond := [Cond.static yJ7_fill_53178, Cond.initialized RJ7, Cond.code yJ7_fill_53178 cJ7_fill_53178 4 none, Cond.methodLink RX8 89 yX8_answered, Cond.instanceMethod yX8_answered, Cond.selects RX8 yX8_answered yX8_answered, Cond.code yX8_answered cX8_answered 2 (some .int)]
def wsX8_row : List Cond := .code yX8_row cX8_row 4 (some .int) :: ((wsX8_row_r1 ++ wsX8_row_r2) ++ wsX80 ++ wsX60)
def wsX8_set_r1 : List Cond := [Cond.constant RX8 80 (-1000001), Cond.fieldLink RX8 11 "PenniesAway" "rows" "[LPenniesAway$Row;", Cond.methodLink RX8 72 yX8_noRow, Cond.static yX8_noRow, Cond.initialized RX8, Cond.code yX8_noRow cX8_noRow 1 (some .boolean), Cond.methodLink RX8 76 yX8_outside, Cond.static yX8_outside, Cond.code yX8_outside cX8_outside 3 (some .boolean), Cond.methodLink RX8 92 yX6_missing, Cond.instanceMethod yX6_missing, Cond.selects RX6 yX6_missing yX6_missing, Cond.initialized RX6, Cond.code yX6_missing cX6_missing 1 (some .boolean), Cond.fieldLink RX6 13 "PenniesAway$Row" "lane" "I", Cond.methodLink RX8 81 yX8_found, Cond.instanceMethod yX8_found, Cond.selects RX8 yX8_found yX8_found, Cond.code yX8_found cX8_found 2 (some .int), Cond.fieldLink RX8 64 "PenniesAway" "latestFinding" "I", Cond.constant RX8 281 (-1000010), Cond.methodLink RX8 96 yX6_holds, Cond.instanceMethod yX6_holds, Cond.selects RX6 yX6_holds yX6_holds]
def wsX8_set_r2 : List Cond := [Cond.code yX6_holds cX6_holds 3 (some .boolean), Cond.fieldLink RX6 17 "PenniesAway$Row" "size" "I", Cond.methodLink RX8 100 yX6_put, Cond.instanceMethod yX6_put, Cond.selects RX6 yX6_put yX6_put, Cond.code yX6_put cX6_put 4 (some .int), Cond.fieldLink RX6 9 "PenniesAway$Row" "items" "[I", Cond.methodLink RX8 89 yX8_answered, Cond.instanceMethod yX8_answered, Cond.selects RX8 yX8_answered yX8_answered, Cond.code yX8_answered cX8_answered 2 (some .int)]
def wsX8_set : List Cond := .code yX8_set cX8_set 5 (some .int) :: ((wsX8_set_r1 ++ wsX8_set_r2) ++ wsX80 ++ wsX60)
def wsX8_copy_r1 : List Cond := [Cond.constant RX8 80 (-1000001), Cond.fieldLink RX8 11 "PenniesAway" "rows" "[LPenniesAway$Row;", Cond.fieldLink RX8 104 "PenniesAway$Row" "lane" "I", Cond.fieldLink RX8 107 "PenniesAway$Row" "items" "[I", Cond.methodLink RX8 111 arraycopyName, Cond.native arraycopyName, Cond.static arraycopyName, Cond.initialized "java/lang/System", Cond.methodLink RX8 72 yX8_noRow, Cond.static yX8_noRow, Cond.initialized RX8, Cond.code yX8_noRow cX8_noRow 1 (some .boolean), Cond.methodLink RX8 76 yX8_outside, Cond.static yX8_outside, Cond.code yX8_outside cX8_outside 3 (some .boolean), Cond.methodLink RX8 92 yX6_missing, Cond.instanceMethod yX6_missing, Cond.selects RX6 yX6_missing yX6_missing, Cond.initialized RX6, Cond.code yX6_missing cX6_missing 1 (some .boolean), Cond.fieldLink RX6 13 "PenniesAway$Row" "lane" "I", Cond.methodLink RX8 81 yX8_found, Cond.instanceMethod yX8_found, Cond.selects RX8 yX8_found yX8_found]
def wsX8_copy_r2 : List Cond := [Cond.code yX8_found cX8_found 2 (some .int), Cond.fieldLink RX8 64 "PenniesAway" "latestFinding" "I", Cond.constant RX8 281 (-1000010), Cond.methodLink RX8 96 yX6_holds, Cond.instanceMethod yX6_holds, Cond.selects RX6 yX6_holds yX6_holds, Cond.code yX6_holds cX6_holds 3 (some .boolean), Cond.fieldLink RX6 17 "PenniesAway$Row" "size" "I", Cond.methodLink RX8 89 yX8_answered, Cond.instanceMethod yX8_answered, Cond.selects RX8 yX8_answered yX8_answered, Cond.code yX8_answered cX8_answered 2 (some .int)]
def wsX8_copy : List Cond := .code yX8_copy cX8_copy 8 (some .int) :: ((wsX8_copy_r1 ++ wsX8_copy_r2) ++ wsX80 ++ wsX60)
def wsX8_drop_r1 : List Cond := [Cond.constant RX8 80 (-1000001), Cond.fieldLink RX8 11 "PenniesAway" "rows" "[LPenniesAway$Row;", Cond.fieldLink RX8 117 "PenniesAway$Row" "size" "I", Cond.methodLink RX8 72 yX8_noRow, Cond.static yX8_noRow, Cond.initialized RX8, Cond.code yX8_noRow cX8_noRow 1 (some .boolean), Cond.methodLink RX8 76 yX8_outside, Cond.static yX8_outside, Cond.code yX8_outside cX8_outside 3 (some .boolean), Cond.methodLink RX8 92 yX6_missing, Cond.instanceMethod yX6_missing, Cond.selects RX6 yX6_missing yX6_missing, Cond.initialized RX6, Cond.code yX6_missing cX6_missing 1 (some .boolean), Cond.fieldLink RX6 13 "PenniesAway$Row" "lane" "I", Cond.methodLink RX8 81 yX8_found, Cond.instanceMethod yX8_found, Cond.selects RX8 yX8_found yX8_found, Cond.code yX8_found cX8_found 2 (some .int), Cond.fieldLink RX8 64 "PenniesAway" "latestFinding" "I", Cond.constant RX8 281 (-1000010), Cond.methodLink RX8 120 yX6_takeAway, Cond.instanceMethod yX6_takeAway]
def wsX8_drop_r2 : List Cond := [Cond.selects RX6 yX6_takeAway yX6_takeAway, Cond.code yX6_takeAway cX6_takeAway 1 none, Cond.fieldLink RX6 17 "PenniesAway$Row" "size" "I", Cond.methodLink RX8 89 yX8_answered, Cond.instanceMethod yX8_answered, Cond.selects RX8 yX8_answered yX8_answered, Cond.code yX8_answered cX8_answered 2 (some .int)]
def wsX8_drop : List Cond := .code yX8_drop cX8_drop 4 (some .int) :: ((wsX8_drop_r1 ++ wsX8_drop_r2) ++ wsX80 ++ wsX60)
def wsX8_feed : List Cond := .code yX8_feed cX8_feed 4 (some .int) :: ([.constant RX8 80 (-1000001), .fieldLink RX8 32 "PenniesAway" "tape" "LPenniesAway$Tape;", .fieldLink RX8 125 "PenniesAway$Tape" "length" "I", .constant RX8 128 (-1000003), .methodLink RX8 76 yX8_outside, .static yX8_outside, .initialized RX8, .code yX8_outside cX8_outside 3 (some .boolean), .methodLink RX8 129 yX7_append, .instanceMethod yX7_append, .selects RX7 yX7_append yX7_append, .initialized RX7, .code yX7_append cX7_append 5 none, .fieldLink RX7 9 "PenniesAway$Tape" "bytes" "[B", .fieldLink RX7 13 "PenniesAway$Tape" "length" "I"] ++ wsX80 ++ wsX70)
def wsX8_realm_r1 : List Cond := [Cond.fieldLink RX8 24 "PenniesAway" "reader" "LPenniesAway$Reader;", Cond.fieldLink RX8 61 "PenniesAway" "draft" "LPenniesAway$Realm;", Cond.fieldLink RX8 32 "PenniesAway" "tape" "LPenniesAway$Tape;", Cond.fieldLink RX8 140 "PenniesAway$Reader" "faultNumber" "I", Cond.fieldLink RX8 68 "PenniesAway" "latestFault" "I", Cond.constant RX8 143 (-1000100), Cond.fieldLink RX8 144 "PenniesAway$Reader" "faultPlace" "I", Cond.fieldLink RX8 57 "PenniesAway" "kingdom" "LPenniesAway$Realm;", Cond.fieldLink RX8 38 "PenniesAway" "acts" "LPenniesAway$Acts;", Cond.fieldLink RX8 150 "PenniesAway$Realm" "coins" "I", Cond.methodLink RX8 133 yX4_read, Cond.instanceMethod yX4_read, Cond.selects RX4 yX4_read yX4_read, Cond.initialized RX4, Cond.code yX4_read cX4_read 2 (some .boolean), Cond.fieldLink RX4 10 "PenniesAway$Reader" "text" "LPenniesAway$Tape;", Cond.fieldLink RX4 47 "PenniesAway$Tape" "sort" "I", Cond.fieldLink RX4 57 "PenniesAway$Realm" "told" "Z", Cond.methodLink RX4 26 yX5_clear, Cond.instanceMethod yX5_clear, Cond.selects RX5 yX5_clear yX5_clear, Cond.initialized RX5, Cond.code yX5_clear cX5_clear 2 none, Cond.fieldLink RX5 11 "PenniesAway$Realm" "ways" "[I"]
def wsX8_realm_r2 : List Cond := [Cond.constant RX5 38 (1000000), Cond.fieldLink RX5 21 "PenniesAway$Realm" "changing" "[I", Cond.fieldLink RX5 24 "PenniesAway$Realm" "told" "Z", Cond.fieldLink RX5 28 "PenniesAway$Realm" "leave" "I", Cond.fieldLink RX5 32 "PenniesAway$Realm" "holders" "I", Cond.fieldLink RX5 35 "PenniesAway$Realm" "coins" "I", Cond.methodLink RX5 39 yJ7_fill_53178, Cond.static yJ7_fill_53178, Cond.initialized RJ7, Cond.code yJ7_fill_53178 cJ7_fill_53178 4 none, Cond.methodLink RX4 31 yX7_rewind, Cond.instanceMethod yX7_rewind, Cond.selects RX7 yX7_rewind yX7_rewind, Cond.initialized RX7, Cond.code yX7_rewind cX7_rewind 1 none, Cond.fieldLink RX7 26 "PenniesAway$Tape" "end" "I", Cond.methodLink RX7 29 yX7_step, Cond.instanceMethod yX7_step, Cond.selects RX7 yX7_step yX7_step, Cond.code yX7_step cX7_step 1 none, Cond.fieldLink RX7 20 "PenniesAway$Tape" "start" "I", Cond.fieldLink RX7 13 "PenniesAway$Tape" "length" "I", Cond.fieldLink RX7 17 "PenniesAway$Tape" "sort" "I", Cond.methodLink RX7 32 yX7_sortOfByte]
def wsX8_realm_r3 : List Cond := [Cond.instanceMethod yX7_sortOfByte, Cond.selects RX7 yX7_sortOfByte yX7_sortOfByte, Cond.code yX7_sortOfByte cX7_sortOfByte 3 (some .int), Cond.fieldLink RX7 9 "PenniesAway$Tape" "bytes" "[B", Cond.methodLink RX7 36 yX7_weighFigures, Cond.instanceMethod yX7_weighFigures, Cond.selects RX7 yX7_weighFigures yX7_weighFigures, Cond.code yX7_weighFigures cX7_weighFigures 2 none, Cond.fieldLink RX7 23 "PenniesAway$Tape" "number" "I", Cond.methodLink RX4 34 yX4_readLaw, Cond.instanceMethod yX4_readLaw, Cond.selects RX4 yX4_readLaw yX4_readLaw, Cond.code yX4_readLaw cX4_readLaw 2 (some .boolean), Cond.fieldLink RX4 16 "PenniesAway$Reader" "taken" "I", Cond.fieldLink RX4 74 "PenniesAway$Realm" "leave" "I", Cond.methodLink RX4 63 yX7_isWord, Cond.instanceMethod yX7_isWord, Cond.selects RX7 yX7_isWord yX7_isWord, Cond.code yX7_isWord cX7_isWord 3 (some .boolean), Cond.methodLink RX7 39 yJ0_length_8abf5, Cond.instanceMethod yJ0_length_8abf5, Cond.selects RJ0 yJ0_length_8abf5 yJ0_length_8abf5, Cond.initialized RJ0, Cond.code yJ0_length_8abf5 cJ0_length_8abf5 1 (some .int)]
def wsX8_realm_r4 : List Cond := [Cond.fieldLink RJ0 9 "java/lang/String" "value" "[B", Cond.methodLink RJ0 335 yJ0_coder_7d493, Cond.instanceMethod yJ0_coder_7d493, Cond.selects RJ0 yJ0_coder_7d493 yJ0_coder_7d493, Cond.code yJ0_coder_7d493 cJ0_coder_7d493 1 (some .byte), Cond.fieldLink RJ0 38 "java/lang/String" "COMPACT_STRINGS" "Z", Cond.fieldLink RJ0 15 "java/lang/String" "coder" "B", Cond.methodLink RX7 44 yJ0_charAt_5068e, Cond.instanceMethod yJ0_charAt_5068e, Cond.selects RJ0 yJ0_charAt_5068e yJ0_charAt_5068e, Cond.code yJ0_charAt_5068e cJ0_charAt_5068e 2 (some .char), Cond.methodLink RJ0 492 yJ0_isLatin1_aae02, Cond.instanceMethod yJ0_isLatin1_aae02, Cond.selects RJ0 yJ0_isLatin1_aae02 yJ0_isLatin1_aae02, Cond.code yJ0_isLatin1_aae02 cJ0_isLatin1_aae02 1 (some .boolean), Cond.methodLink RJ0 495 yJ1_charAt_3b067, Cond.static yJ1_charAt_3b067, Cond.initialized RJ1, Cond.code yJ1_charAt_3b067 cJ1_charAt_3b067 2 (some .char), Cond.methodLink RJ1 9 yJ0_checkIndex_df160, Cond.static yJ0_checkIndex_df160, Cond.code yJ0_checkIndex_df160 cJ0_checkIndex_df160 2 none, Cond.fieldLink RJ0 1053 "jdk/internal/util/Preconditions" "SIOOBE_FORMATTER" "Ljava/util/function/BiFunction;", Cond.methodLink RJ0 1059 yJ3_checkIndex_8e157]
def wsX8_realm_r5 : List Cond := [Cond.static yJ3_checkIndex_8e157, Cond.initialized RJ3, Cond.code yJ3_checkIndex_8e157 cJ3_checkIndex_8e157 3 (some .int), Cond.methodLink RJ0 498 yJ2_charAt_3b067, Cond.static yJ2_charAt_3b067, Cond.initialized RJ2, Cond.code yJ2_charAt_3b067 cJ2_charAt_3b067 2 (some .char), Cond.methodLink RJ2 67 yJ2_checkIndex_2214a, Cond.static yJ2_checkIndex_2214a, Cond.code yJ2_checkIndex_2214a cJ2_checkIndex_2214a 2 none, Cond.methodLink RJ2 48 yJ2_length_9d52b, Cond.static yJ2_length_9d52b, Cond.code yJ2_length_9d52b cJ2_length_9d52b 1 (some .int), Cond.methodLink RJ2 414 yJ0_checkIndex_df160, Cond.methodLink RJ2 71 yJ2_getChar_3b067, Cond.static yJ2_getChar_3b067, Cond.code yJ2_getChar_3b067 cJ2_getChar_3b067 2 (some .char), Cond.fieldLink RJ2 44 "java/lang/StringUTF16" "$assertionsDisabled" "Z", Cond.fieldLink RJ2 59 "java/lang/StringUTF16" "HI_BYTE_SHIFT" "I", Cond.fieldLink RJ2 63 "java/lang/StringUTF16" "LO_BYTE_SHIFT" "I", Cond.methodLink RX4 50 yX4_faulty, Cond.instanceMethod yX4_faulty, Cond.selects RX4 yX4_faulty yX4_faulty, Cond.code yX4_faulty cX4_faulty 2 (some .boolean)]
def wsX8_realm_r6 : List Cond := [Cond.fieldLink RX4 20 "PenniesAway$Reader" "faultNumber" "I", Cond.fieldLink RX4 132 "PenniesAway$Tape" "start" "I", Cond.fieldLink RX4 23 "PenniesAway$Reader" "faultPlace" "I", Cond.methodLink RX4 67 yX7_step, Cond.methodLink RX4 70 yX4_takeNumber, Cond.instanceMethod yX4_takeNumber, Cond.selects RX4 yX4_takeNumber yX4_takeNumber, Cond.code yX4_takeNumber cX4_takeNumber 3 (some .boolean), Cond.fieldLink RX4 86 "PenniesAway$Tape" "number" "I", Cond.static yX8_outside, Cond.initialized RX8, Cond.code yX8_outside cX8_outside 3 (some .boolean), Cond.methodLink RX4 77 yX4_takeSign, Cond.instanceMethod yX4_takeSign, Cond.selects RX4 yX4_takeSign yX4_takeSign, Cond.code yX4_takeSign cX4_takeSign 1 (some .boolean), Cond.methodLink RX4 38 yX4_readRoads, Cond.instanceMethod yX4_readRoads, Cond.selects RX4 yX4_readRoads yX4_readRoads, Cond.code yX4_readRoads cX4_readRoads 3 (some .boolean), Cond.methodLink RX4 83 yX4_readRoad, Cond.instanceMethod yX4_readRoad, Cond.selects RX4 yX4_readRoad yX4_readRoad, Cond.code yX4_readRoad cX4_readRoad 4 (some .boolean)]
def wsX8_realm_r7 : List Cond := [Cond.methodLink RX4 89 yX5_addRoad, Cond.instanceMethod yX5_addRoad, Cond.selects RX5 yX5_addRoad yX5_addRoad, Cond.code yX5_addRoad cX5_addRoad 5 none, Cond.methodLink RX5 51 Lib.Math.min.name, Cond.static Lib.Math.min.name, Cond.initialized "java/lang/Math", Cond.code Lib.Math.min.name Lib.Math.min.code 2 (some .int), Cond.methodLink RX4 41 yX4_readHolders, Cond.instanceMethod yX4_readHolders, Cond.selects RX4 yX4_readHolders yX4_readHolders, Cond.code yX4_readHolders cX4_readHolders 3 (some .boolean), Cond.methodLink RX4 95 yX5_addHolder, Cond.instanceMethod yX5_addHolder, Cond.selects RX5 yX5_addHolder yX5_addHolder, Cond.code yX5_addHolder cX5_addHolder 2 none, Cond.fieldLink RX5 15 "PenniesAway$Realm" "towns" "[I", Cond.methodLink RX4 44 yX4_readCoins, Cond.instanceMethod yX4_readCoins, Cond.selects RX4 yX4_readCoins yX4_readCoins, Cond.code yX4_readCoins cX4_readCoins 3 (some .boolean), Cond.methodLink RX4 101 yX4_readCoin, Cond.instanceMethod yX4_readCoin, Cond.selects RX4 yX4_readCoin yX4_readCoin]
def wsX8_realm_r8 : List Cond := [Cond.code yX4_readCoin cX4_readCoin 4 (some .boolean), Cond.fieldLink RX4 108 "PenniesAway$Realm" "holders" "I", Cond.methodLink RX4 104 yX4_kindOfWord, Cond.instanceMethod yX4_kindOfWord, Cond.selects RX4 yX4_kindOfWord yX4_kindOfWord, Cond.code yX4_kindOfWord cX4_kindOfWord 1 (some .int), Cond.methodLink RX4 111 yX5_addCoin, Cond.instanceMethod yX5_addCoin, Cond.selects RX5 yX5_addCoin yX5_addCoin, Cond.code yX5_addCoin cX5_addCoin 4 none, Cond.fieldLink RX5 18 "PenniesAway$Realm" "kinds" "[I", Cond.methodLink RX5 57 yX5_put, Cond.instanceMethod yX5_put, Cond.selects RX5 yX5_put yX5_put, Cond.code yX5_put cX5_put 4 none, Cond.methodLink RX4 54 yX5_shortenWays, Cond.instanceMethod yX5_shortenWays, Cond.selects RX5 yX5_shortenWays yX5_shortenWays, Cond.code yX5_shortenWays cX5_shortenWays 5 none, Cond.methodLink RX8 137 yX7_empty, Cond.instanceMethod yX7_empty, Cond.selects RX7 yX7_empty yX7_empty, Cond.code yX7_empty cX7_empty 1 none, Cond.methodLink RX8 147 yX0_forgetAll]
def wsX8_realm_r9 : List Cond := [Cond.instanceMethod yX0_forgetAll, Cond.selects RX0 yX0_forgetAll yX0_forgetAll, Cond.initialized RX0, Cond.code yX0_forgetAll cX0_forgetAll 1 none, Cond.fieldLink RX0 16 "PenniesAway$Acts" "next" "I", Cond.fieldLink RX0 20 "PenniesAway$Acts" "kept" "I"]
def wsX8_realm : List Cond := .code yX8_realm cX8_realm 3 (some .int) :: ((wsX8_realm_r1 ++ (wsX8_realm_r2 ++ (wsX8_realm_r3 ++ (wsX8_realm_r4 ++ (wsX8_realm_r5 ++ (wsX8_realm_r6 ++ (wsX8_realm_r7 ++ (wsX8_realm_r8 ++ wsX8_realm_r9)))))))) ++ wsX80 ++ wsX40 ++ wsX50 ++ wsX70 ++ wsX00)
def wsX8_fault : List Cond := .code yX8_fault cX8_fault 1 (some .int) :: ([.fieldLink RX8 68 "PenniesAway" "latestFault" "I"] ++ wsX80)
def wsX8_noCoin : List Cond := .code yX8_noCoin cX8_noCoin 2 (some .boolean) :: ([.fieldLink RX8 57 "PenniesAway" "kingdom" "LPenniesAway$Realm;", .fieldLink RX8 150 "PenniesAway$Realm" "coins" "I", .methodLink RX8 76 yX8_outside, .static yX8_outside, .initialized RX8, .code yX8_outside cX8_outside 3 (some .boolean)] ++ wsX80 ++ wsX50)
def wsX8_pass_r1 : List Cond := [Cond.fieldLink RX8 57 "PenniesAway" "kingdom" "LPenniesAway$Realm;", Cond.fieldLink RX8 156 "PenniesAway$Realm" "holders" "I", Cond.constant RX8 80 (-1000001), Cond.fieldLink RX8 165 "PenniesAway$Realm" "towns" "[I", Cond.constant RX8 168 (-1000002), Cond.fieldLink RX8 38 "PenniesAway" "acts" "LPenniesAway$Acts;", Cond.fieldLink RX8 169 "PenniesAway$Realm" "changing" "[I", Cond.methodLink RX8 153 yX8_noCoin, Cond.instanceMethod yX8_noCoin, Cond.selects RX8 yX8_noCoin yX8_noCoin, Cond.initialized RX8, Cond.code yX8_noCoin cX8_noCoin 2 (some .boolean), Cond.fieldLink RX8 150 "PenniesAway$Realm" "coins" "I", Cond.methodLink RX8 76 yX8_outside, Cond.static yX8_outside, Cond.code yX8_outside cX8_outside 3 (some .boolean), Cond.methodLink RX8 159 yX5_about, Cond.instanceMethod yX5_about, Cond.selects RX5 yX5_about yX5_about, Cond.initialized RX5, Cond.code yX5_about cX5_about 3 (some .int), Cond.fieldLink RX5 21 "PenniesAway$Realm" "changing" "[I", Cond.methodLink RX8 162 yX5_withHolder, Cond.instanceMethod yX5_withHolder]
def wsX8_pass_r2 : List Cond := [Cond.selects RX5 yX5_withHolder yX5_withHolder, Cond.code yX5_withHolder cX5_withHolder 2 (some .boolean), Cond.methodLink RX5 62 yX5_about, Cond.methodLink RX8 172 yX0_keep, Cond.instanceMethod yX0_keep, Cond.selects RX0 yX0_keep yX0_keep, Cond.initialized RX0, Cond.code yX0_keep cX0_keep 2 none, Cond.fieldLink RX0 13 "PenniesAway$Acts" "before" "[[I", Cond.fieldLink RX0 16 "PenniesAway$Acts" "next" "I", Cond.methodLink RX0 23 arraycopyName, Cond.native arraycopyName, Cond.static arraycopyName, Cond.initialized "java/lang/System", Cond.fieldLink RX0 20 "PenniesAway$Acts" "kept" "I", Cond.methodLink RX0 29 Lib.Math.min.name, Cond.static Lib.Math.min.name, Cond.initialized "java/lang/Math", Cond.code Lib.Math.min.name Lib.Math.min.code 2 (some .int), Cond.methodLink RX8 176 yX5_put, Cond.instanceMethod yX5_put, Cond.selects RX5 yX5_put yX5_put, Cond.code yX5_put cX5_put 4 none]
def wsX8_pass : List Cond := .code yX8_pass cX8_pass 4 (some .int) :: ((wsX8_pass_r1 ++ wsX8_pass_r2) ++ wsX80 ++ wsX50 ++ wsX00)
def wsX8_sendKept_r1 : List Cond := [Cond.fieldLink RX8 38 "PenniesAway" "acts" "LPenniesAway$Acts;", Cond.fieldLink RX8 57 "PenniesAway" "kingdom" "LPenniesAway$Realm;", Cond.fieldLink RX8 169 "PenniesAway$Realm" "changing" "[I", Cond.methodLink RX8 172 yX0_keep, Cond.instanceMethod yX0_keep, Cond.selects RX0 yX0_keep yX0_keep, Cond.initialized RX0, Cond.code yX0_keep cX0_keep 2 none, Cond.fieldLink RX0 13 "PenniesAway$Acts" "before" "[[I", Cond.fieldLink RX0 16 "PenniesAway$Acts" "next" "I", Cond.methodLink RX0 23 arraycopyName, Cond.native arraycopyName, Cond.static arraycopyName, Cond.initialized "java/lang/System", Cond.fieldLink RX0 20 "PenniesAway$Acts" "kept" "I", Cond.methodLink RX0 29 Lib.Math.min.name, Cond.static Lib.Math.min.name, Cond.initialized "java/lang/Math", Cond.code Lib.Math.min.name Lib.Math.min.code 2 (some .int), Cond.methodLink RX8 278 yX5_startHome, Cond.instanceMethod yX5_startHome, Cond.selects RX5 yX5_startHome yX5_startHome, Cond.initialized RX5, Cond.code yX5_startHome cX5_startHome 3 (some .int)]
def wsX8_sendKept_r2 : List Cond := [Cond.methodLink RX5 71 yX5_townOf, Cond.instanceMethod yX5_townOf, Cond.selects RX5 yX5_townOf yX5_townOf, Cond.code yX5_townOf cX5_townOf 2 (some .int), Cond.fieldLink RX5 15 "PenniesAway$Realm" "towns" "[I", Cond.methodLink RX5 62 yX5_about, Cond.instanceMethod yX5_about, Cond.selects RX5 yX5_about yX5_about, Cond.code yX5_about cX5_about 3 (some .int), Cond.fieldLink RX5 21 "PenniesAway$Realm" "changing" "[I", Cond.methodLink RX5 75 yX5_distance, Cond.instanceMethod yX5_distance, Cond.selects RX5 yX5_distance yX5_distance, Cond.code yX5_distance cX5_distance 4 (some .int), Cond.fieldLink RX5 11 "PenniesAway$Realm" "ways" "[I", Cond.constant RX5 38 (1000000), Cond.constant RX5 61 (-1000000), Cond.methodLink RX5 57 yX5_put, Cond.instanceMethod yX5_put, Cond.selects RX5 yX5_put yX5_put, Cond.code yX5_put cX5_put 4 none]
def wsX8_sendKept : List Cond := .code yX8_sendKept cX8_sendKept 2 (some .int) :: ((wsX8_sendKept_r1 ++ wsX8_sendKept_r2) ++ wsX80 ++ wsX50 ++ wsX00)
def wsX8_send_r1 : List Cond := [Cond.constant RX8 80 (-1000001), Cond.fieldLink RX8 57 "PenniesAway" "kingdom" "LPenniesAway$Realm;", Cond.constant RX8 168 (-1000002), Cond.methodLink RX8 153 yX8_noCoin, Cond.instanceMethod yX8_noCoin, Cond.selects RX8 yX8_noCoin yX8_noCoin, Cond.initialized RX8, Cond.code yX8_noCoin cX8_noCoin 2 (some .boolean), Cond.fieldLink RX8 150 "PenniesAway$Realm" "coins" "I", Cond.methodLink RX8 76 yX8_outside, Cond.static yX8_outside, Cond.code yX8_outside cX8_outside 3 (some .boolean), Cond.methodLink RX8 179 yX5_canGoHome, Cond.instanceMethod yX5_canGoHome, Cond.selects RX5 yX5_canGoHome yX5_canGoHome, Cond.initialized RX5, Cond.code yX5_canGoHome cX5_canGoHome 2 (some .boolean), Cond.constant RX5 61 (-1000000), Cond.methodLink RX5 67 yX5_withHolder, Cond.instanceMethod yX5_withHolder, Cond.selects RX5 yX5_withHolder yX5_withHolder, Cond.code yX5_withHolder cX5_withHolder 2 (some .boolean), Cond.methodLink RX5 62 yX5_about, Cond.instanceMethod yX5_about]
def wsX8_send_r2 : List Cond := [Cond.selects RX5 yX5_about yX5_about, Cond.code yX5_about cX5_about 3 (some .int), Cond.fieldLink RX5 21 "PenniesAway$Realm" "changing" "[I", Cond.methodLink RX5 71 yX5_townOf, Cond.instanceMethod yX5_townOf, Cond.selects RX5 yX5_townOf yX5_townOf, Cond.code yX5_townOf cX5_townOf 2 (some .int), Cond.fieldLink RX5 15 "PenniesAway$Realm" "towns" "[I", Cond.methodLink RX5 75 yX5_distance, Cond.instanceMethod yX5_distance, Cond.selects RX5 yX5_distance yX5_distance, Cond.code yX5_distance cX5_distance 4 (some .int), Cond.fieldLink RX5 11 "PenniesAway$Realm" "ways" "[I", Cond.constant RX5 38 (1000000), Cond.methodLink RX8 182 yX8_sendKept, Cond.instanceMethod yX8_sendKept, Cond.selects RX8 yX8_sendKept yX8_sendKept, Cond.code yX8_sendKept cX8_sendKept 2 (some .int), Cond.fieldLink RX8 38 "PenniesAway" "acts" "LPenniesAway$Acts;", Cond.fieldLink RX8 169 "PenniesAway$Realm" "changing" "[I", Cond.methodLink RX8 172 yX0_keep, Cond.instanceMethod yX0_keep, Cond.selects RX0 yX0_keep yX0_keep, Cond.initialized RX0]
def wsX8_send_r3 : List Cond := [Cond.code yX0_keep cX0_keep 2 none, Cond.fieldLink RX0 13 "PenniesAway$Acts" "before" "[[I", Cond.fieldLink RX0 16 "PenniesAway$Acts" "next" "I", Cond.methodLink RX0 23 arraycopyName, Cond.native arraycopyName, Cond.static arraycopyName, Cond.initialized "java/lang/System", Cond.fieldLink RX0 20 "PenniesAway$Acts" "kept" "I", Cond.methodLink RX0 29 Lib.Math.min.name, Cond.static Lib.Math.min.name, Cond.initialized "java/lang/Math", Cond.code Lib.Math.min.name Lib.Math.min.code 2 (some .int), Cond.methodLink RX8 278 yX5_startHome, Cond.instanceMethod yX5_startHome, Cond.selects RX5 yX5_startHome yX5_startHome, Cond.code yX5_startHome cX5_startHome 3 (some .int), Cond.methodLink RX5 57 yX5_put, Cond.instanceMethod yX5_put, Cond.selects RX5 yX5_put yX5_put, Cond.code yX5_put cX5_put 4 none]
def wsX8_send : List Cond := .code yX8_send cX8_send 2 (some .int) :: ((wsX8_send_r1 ++ (wsX8_send_r2 ++ wsX8_send_r3)) ++ wsX80 ++ wsX50 ++ wsX00)
def wsX8_sendAll_r1 : List Cond := [Cond.fieldLink RX8 57 "PenniesAway" "kingdom" "LPenniesAway$Realm;", Cond.fieldLink RX8 185 "PenniesAway$Realm" "told" "Z", Cond.constant RX8 168 (-1000002), Cond.constant RX8 80 (-1000001), Cond.fieldLink RX8 11 "PenniesAway" "rows" "[LPenniesAway$Row;", Cond.fieldLink RX8 107 "PenniesAway$Row" "items" "[I", Cond.methodLink RX8 72 yX8_noRow, Cond.static yX8_noRow, Cond.initialized RX8, Cond.code yX8_noRow cX8_noRow 1 (some .boolean), Cond.methodLink RX8 76 yX8_outside, Cond.static yX8_outside, Cond.code yX8_outside cX8_outside 3 (some .boolean), Cond.methodLink RX8 92 yX6_missing, Cond.instanceMethod yX6_missing, Cond.selects RX6 yX6_missing yX6_missing, Cond.initialized RX6, Cond.code yX6_missing cX6_missing 1 (some .boolean), Cond.fieldLink RX6 13 "PenniesAway$Row" "lane" "I", Cond.methodLink RX8 81 yX8_found, Cond.instanceMethod yX8_found, Cond.selects RX8 yX8_found yX8_found, Cond.code yX8_found cX8_found 2 (some .int), Cond.fieldLink RX8 64 "PenniesAway" "latestFinding" "I"]
def wsX8_sendAll_r2 : List Cond := [Cond.constant RX8 281 (-1000010), Cond.methodLink RX8 96 yX6_holds, Cond.instanceMethod yX6_holds, Cond.selects RX6 yX6_holds yX6_holds, Cond.code yX6_holds cX6_holds 3 (some .boolean), Cond.fieldLink RX6 17 "PenniesAway$Row" "size" "I", Cond.methodLink RX8 153 yX8_noCoin, Cond.instanceMethod yX8_noCoin, Cond.selects RX8 yX8_noCoin yX8_noCoin, Cond.code yX8_noCoin cX8_noCoin 2 (some .boolean), Cond.fieldLink RX8 150 "PenniesAway$Realm" "coins" "I", Cond.methodLink RX8 179 yX5_canGoHome, Cond.instanceMethod yX5_canGoHome, Cond.selects RX5 yX5_canGoHome yX5_canGoHome, Cond.initialized RX5, Cond.code yX5_canGoHome cX5_canGoHome 2 (some .boolean), Cond.constant RX5 61 (-1000000), Cond.methodLink RX5 67 yX5_withHolder, Cond.instanceMethod yX5_withHolder, Cond.selects RX5 yX5_withHolder yX5_withHolder, Cond.code yX5_withHolder cX5_withHolder 2 (some .boolean), Cond.methodLink RX5 62 yX5_about, Cond.instanceMethod yX5_about, Cond.selects RX5 yX5_about yX5_about]
def wsX8_sendAll_r3 : List Cond := [Cond.code yX5_about cX5_about 3 (some .int), Cond.fieldLink RX5 21 "PenniesAway$Realm" "changing" "[I", Cond.methodLink RX5 71 yX5_townOf, Cond.instanceMethod yX5_townOf, Cond.selects RX5 yX5_townOf yX5_townOf, Cond.code yX5_townOf cX5_townOf 2 (some .int), Cond.fieldLink RX5 15 "PenniesAway$Realm" "towns" "[I", Cond.methodLink RX5 75 yX5_distance, Cond.instanceMethod yX5_distance, Cond.selects RX5 yX5_distance yX5_distance, Cond.code yX5_distance cX5_distance 4 (some .int), Cond.fieldLink RX5 11 "PenniesAway$Realm" "ways" "[I", Cond.constant RX5 38 (1000000), Cond.methodLink RX8 182 yX8_sendKept, Cond.instanceMethod yX8_sendKept, Cond.selects RX8 yX8_sendKept yX8_sendKept, Cond.code yX8_sendKept cX8_sendKept 2 (some .int), Cond.fieldLink RX8 38 "PenniesAway" "acts" "LPenniesAway$Acts;", Cond.fieldLink RX8 169 "PenniesAway$Realm" "changing" "[I", Cond.methodLink RX8 172 yX0_keep, Cond.instanceMethod yX0_keep, Cond.selects RX0 yX0_keep yX0_keep, Cond.initialized RX0, Cond.code yX0_keep cX0_keep 2 none]
def wsX8_sendAll_r4 : List Cond := [Cond.fieldLink RX0 13 "PenniesAway$Acts" "before" "[[I", Cond.fieldLink RX0 16 "PenniesAway$Acts" "next" "I", Cond.methodLink RX0 23 arraycopyName, Cond.native arraycopyName, Cond.static arraycopyName, Cond.initialized "java/lang/System", Cond.fieldLink RX0 20 "PenniesAway$Acts" "kept" "I", Cond.methodLink RX0 29 Lib.Math.min.name, Cond.static Lib.Math.min.name, Cond.initialized "java/lang/Math", Cond.code Lib.Math.min.name Lib.Math.min.code 2 (some .int), Cond.methodLink RX8 278 yX5_startHome, Cond.instanceMethod yX5_startHome, Cond.selects RX5 yX5_startHome yX5_startHome, Cond.code yX5_startHome cX5_startHome 3 (some .int), Cond.methodLink RX5 57 yX5_put, Cond.instanceMethod yX5_put, Cond.selects RX5 yX5_put yX5_put, Cond.code yX5_put cX5_put 4 none, Cond.methodLink RX8 89 yX8_answered, Cond.instanceMethod yX8_answered, Cond.selects RX8 yX8_answered yX8_answered, Cond.code yX8_answered cX8_answered 2 (some .int)]
def wsX8_sendAll : List Cond := .code yX8_sendAll cX8_sendAll 7 (some .int) :: ((wsX8_sendAll_r1 ++ (wsX8_sendAll_r2 ++ (wsX8_sendAll_r3 ++ wsX8_sendAll_r4))) ++ wsX80 ++ wsX50 ++ wsX60 ++ wsX00)
def wsX8_days_r1 : List Cond := [Cond.fieldLink RX8 57 "PenniesAway" "kingdom" "LPenniesAway$Realm;", Cond.fieldLink RX8 185 "PenniesAway$Realm" "told" "Z", Cond.constant RX8 168 (-1000002), Cond.constant RX8 80 (-1000001), Cond.constant RX8 128 (-1000003), Cond.fieldLink RX8 38 "PenniesAway" "acts" "LPenniesAway$Acts;", Cond.fieldLink RX8 169 "PenniesAway$Realm" "changing" "[I", Cond.methodLink RX8 76 yX8_outside, Cond.static yX8_outside, Cond.initialized RX8, Cond.code yX8_outside cX8_outside 3 (some .boolean), Cond.methodLink RX8 189 yX5_today, Cond.instanceMethod yX5_today, Cond.selects RX5 yX5_today yX5_today, Cond.initialized RX5, Cond.code yX5_today cX5_today 1 (some .int), Cond.fieldLink RX5 21 "PenniesAway$Realm" "changing" "[I", Cond.methodLink RX8 172 yX0_keep, Cond.instanceMethod yX0_keep, Cond.selects RX0 yX0_keep yX0_keep, Cond.initialized RX0, Cond.code yX0_keep cX0_keep 2 none, Cond.fieldLink RX0 13 "PenniesAway$Acts" "before" "[[I", Cond.fieldLink RX0 16 "PenniesAway$Acts" "next" "I"]
def wsX8_days_r2 : List Cond := [Cond.methodLink RX0 23 arraycopyName, Cond.native arraycopyName, Cond.static arraycopyName, Cond.initialized "java/lang/System", Cond.fieldLink RX0 20 "PenniesAway$Acts" "kept" "I", Cond.methodLink RX0 29 Lib.Math.min.name, Cond.static Lib.Math.min.name, Cond.initialized "java/lang/Math", Cond.code Lib.Math.min.name Lib.Math.min.code 2 (some .int), Cond.methodLink RX8 193 yX5_liveDay, Cond.instanceMethod yX5_liveDay, Cond.selects RX5 yX5_liveDay yX5_liveDay, Cond.code yX5_liveDay cX5_liveDay 3 (some .int), Cond.fieldLink RX5 35 "PenniesAway$Realm" "coins" "I", Cond.methodLink RX5 78 yX5_dumb, Cond.instanceMethod yX5_dumb, Cond.selects RX5 yX5_dumb yX5_dumb, Cond.code yX5_dumb cX5_dumb 2 (some .boolean), Cond.methodLink RX5 62 yX5_about, Cond.instanceMethod yX5_about, Cond.selects RX5 yX5_about yX5_about, Cond.code yX5_about cX5_about 3 (some .int), Cond.methodLink RX5 57 yX5_put, Cond.instanceMethod yX5_put]
def wsX8_days_r3 : List Cond := [Cond.selects RX5 yX5_put yX5_put, Cond.code yX5_put cX5_put 4 none, Cond.methodLink RX5 81 yX5_underWay, Cond.instanceMethod yX5_underWay, Cond.selects RX5 yX5_underWay yX5_underWay, Cond.code yX5_underWay cX5_underWay 2 (some .boolean), Cond.methodLink RX5 84 yX5_travel, Cond.instanceMethod yX5_travel, Cond.selects RX5 yX5_travel yX5_travel, Cond.code yX5_travel cX5_travel 2 none, Cond.methodLink RX5 88 yX5_forged, Cond.instanceMethod yX5_forged, Cond.selects RX5 yX5_forged yX5_forged, Cond.code yX5_forged cX5_forged 2 (some .boolean), Cond.fieldLink RX5 18 "PenniesAway$Realm" "kinds" "[I", Cond.methodLink RX5 71 yX5_townOf, Cond.instanceMethod yX5_townOf, Cond.selects RX5 yX5_townOf yX5_townOf, Cond.code yX5_townOf cX5_townOf 2 (some .int), Cond.fieldLink RX5 15 "PenniesAway$Realm" "towns" "[I", Cond.methodLink RX5 75 yX5_distance, Cond.instanceMethod yX5_distance, Cond.selects RX5 yX5_distance yX5_distance, Cond.code yX5_distance cX5_distance 4 (some .int)]
def wsX8_days_r4 : List Cond := [Cond.fieldLink RX5 11 "PenniesAway$Realm" "ways" "[I", Cond.constant RX5 38 (1000000), Cond.constant RX5 61 (-1000000), Cond.methodLink RX5 91 yX5_spanOf, Cond.instanceMethod yX5_spanOf, Cond.selects RX5 yX5_spanOf yX5_spanOf, Cond.code yX5_spanOf cX5_spanOf 2 (some .int), Cond.fieldLink RX5 28 "PenniesAway$Realm" "leave" "I"]
def wsX8_days : List Cond := .code yX8_days cX8_days 4 (some .int) :: ((wsX8_days_r1 ++ (wsX8_days_r2 ++ (wsX8_days_r3 ++ wsX8_days_r4))) ++ wsX80 ++ wsX50 ++ wsX00)
def wsX8_flood_r1 : List Cond := [Cond.fieldLink RX8 57 "PenniesAway" "kingdom" "LPenniesAway$Realm;", Cond.fieldLink RX8 185 "PenniesAway$Realm" "told" "Z", Cond.constant RX8 168 (-1000002), Cond.constant RX8 196 (999999), Cond.constant RX8 80 (-1000001), Cond.fieldLink RX8 38 "PenniesAway" "acts" "LPenniesAway$Acts;", Cond.fieldLink RX8 169 "PenniesAway$Realm" "changing" "[I", Cond.methodLink RX8 76 yX8_outside, Cond.static yX8_outside, Cond.initialized RX8, Cond.code yX8_outside cX8_outside 3 (some .boolean), Cond.methodLink RX8 172 yX0_keep, Cond.instanceMethod yX0_keep, Cond.selects RX0 yX0_keep yX0_keep, Cond.initialized RX0, Cond.code yX0_keep cX0_keep 2 none, Cond.fieldLink RX0 13 "PenniesAway$Acts" "before" "[[I", Cond.fieldLink RX0 16 "PenniesAway$Acts" "next" "I", Cond.methodLink RX0 23 arraycopyName, Cond.native arraycopyName, Cond.static arraycopyName, Cond.initialized "java/lang/System", Cond.fieldLink RX0 20 "PenniesAway$Acts" "kept" "I", Cond.methodLink RX0 29 Lib.Math.min.name]
def wsX8_flood_r2 : List Cond := [Cond.static Lib.Math.min.name, Cond.initialized "java/lang/Math", Cond.code Lib.Math.min.name Lib.Math.min.code 2 (some .int), Cond.methodLink RX8 197 yX5_holdUp, Cond.instanceMethod yX5_holdUp, Cond.selects RX5 yX5_holdUp yX5_holdUp, Cond.initialized RX5, Cond.code yX5_holdUp cX5_holdUp 7 (some .int), Cond.fieldLink RX5 35 "PenniesAway$Realm" "coins" "I", Cond.constantLong RX5 94 (16807), Cond.constantLong RX5 96 (2147483647), Cond.constantLong RX5 98 (10), Cond.methodLink RX5 81 yX5_underWay, Cond.instanceMethod yX5_underWay, Cond.selects RX5 yX5_underWay yX5_underWay, Cond.code yX5_underWay cX5_underWay 2 (some .boolean), Cond.methodLink RX5 62 yX5_about, Cond.instanceMethod yX5_about, Cond.selects RX5 yX5_about yX5_about, Cond.code yX5_about cX5_about 3 (some .int), Cond.fieldLink RX5 21 "PenniesAway$Realm" "changing" "[I", Cond.methodLink RX5 57 yX5_put, Cond.instanceMethod yX5_put, Cond.selects RX5 yX5_put yX5_put]
def wsX8_flood_r3 : List Cond := [Cond.code yX5_put cX5_put 4 none]
def wsX8_flood : List Cond := .code yX8_flood cX8_flood 2 (some .int) :: ((wsX8_flood_r1 ++ (wsX8_flood_r2 ++ wsX8_flood_r3)) ++ wsX80 ++ wsX50 ++ wsX00)
def wsX8_undo : List Cond := .code yX8_undo cX8_undo 1 (some .int) :: ([.fieldLink RX8 38 "PenniesAway" "acts" "LPenniesAway$Acts;", .fieldLink RX8 200 "PenniesAway$Acts" "kept" "I", .constant RX8 168 (-1000002), .fieldLink RX8 57 "PenniesAway" "kingdom" "LPenniesAway$Realm;", .fieldLink RX8 169 "PenniesAway$Realm" "changing" "[I", .methodLink RX8 203 yX0_takeBack, .instanceMethod yX0_takeBack, .selects RX0 yX0_takeBack yX0_takeBack, .initialized RX0, .code yX0_takeBack cX0_takeBack 2 none, .fieldLink RX0 16 "PenniesAway$Acts" "next" "I", .fieldLink RX0 13 "PenniesAway$Acts" "before" "[[I", .methodLink RX0 23 arraycopyName, .native arraycopyName, .static arraycopyName, .initialized "java/lang/System", .fieldLink RX0 20 "PenniesAway$Acts" "kept" "I"] ++ wsX80 ++ wsX00 ++ wsX50)
def wsX8_coin_r1 : List Cond := [Cond.constant RX8 80 (-1000001), Cond.fieldLink RX8 57 "PenniesAway" "kingdom" "LPenniesAway$Realm;", Cond.methodLink RX8 153 yX8_noCoin, Cond.instanceMethod yX8_noCoin, Cond.selects RX8 yX8_noCoin yX8_noCoin, Cond.initialized RX8, Cond.code yX8_noCoin cX8_noCoin 2 (some .boolean), Cond.fieldLink RX8 150 "PenniesAway$Realm" "coins" "I", Cond.methodLink RX8 76 yX8_outside, Cond.static yX8_outside, Cond.code yX8_outside cX8_outside 3 (some .boolean), Cond.methodLink RX8 206 yX5_spanOf, Cond.instanceMethod yX5_spanOf, Cond.selects RX5 yX5_spanOf yX5_spanOf, Cond.initialized RX5, Cond.code yX5_spanOf cX5_spanOf 2 (some .int), Cond.fieldLink RX5 18 "PenniesAway$Realm" "kinds" "[I", Cond.fieldLink RX5 28 "PenniesAway$Realm" "leave" "I", Cond.methodLink RX8 209 yX5_slackOf, Cond.instanceMethod yX5_slackOf, Cond.selects RX5 yX5_slackOf yX5_slackOf, Cond.code yX5_slackOf cX5_slackOf 2 (some .int), Cond.methodLink RX5 100 yX5_slackWithMint, Cond.instanceMethod yX5_slackWithMint]
def wsX8_coin_r2 : List Cond := [Cond.selects RX5 yX5_slackWithMint yX5_slackWithMint, Cond.code yX5_slackWithMint cX5_slackWithMint 5 (some .int), Cond.constant RX5 61 (-1000000), Cond.fieldLink RX5 11 "PenniesAway$Realm" "ways" "[I", Cond.methodLink RX5 51 Lib.Math.min.name, Cond.static Lib.Math.min.name, Cond.initialized "java/lang/Math", Cond.code Lib.Math.min.name Lib.Math.min.code 2 (some .int), Cond.constant RX5 38 (1000000), Cond.methodLink RX5 78 yX5_dumb, Cond.instanceMethod yX5_dumb, Cond.selects RX5 yX5_dumb yX5_dumb, Cond.code yX5_dumb cX5_dumb 2 (some .boolean), Cond.methodLink RX5 62 yX5_about, Cond.instanceMethod yX5_about, Cond.selects RX5 yX5_about yX5_about, Cond.code yX5_about cX5_about 3 (some .int), Cond.fieldLink RX5 21 "PenniesAway$Realm" "changing" "[I", Cond.methodLink RX5 88 yX5_forged, Cond.instanceMethod yX5_forged, Cond.selects RX5 yX5_forged yX5_forged, Cond.code yX5_forged cX5_forged 2 (some .boolean), Cond.methodLink RX5 71 yX5_townOf, Cond.instanceMethod yX5_townOf]
def wsX8_coin_r3 : List Cond := [Cond.selects RX5 yX5_townOf yX5_townOf, Cond.code yX5_townOf cX5_townOf 2 (some .int), Cond.fieldLink RX5 15 "PenniesAway$Realm" "towns" "[I", Cond.methodLink RX5 67 yX5_withHolder, Cond.instanceMethod yX5_withHolder, Cond.selects RX5 yX5_withHolder yX5_withHolder, Cond.code yX5_withHolder cX5_withHolder 2 (some .boolean), Cond.methodLink RX5 91 yX5_spanOf, Cond.methodLink RX8 212 yX5_worthOf, Cond.instanceMethod yX5_worthOf, Cond.selects RX5 yX5_worthOf yX5_worthOf, Cond.code yX5_worthOf cX5_worthOf 4 (some .int), Cond.methodLink RX5 103 yX5_slackOf, Cond.methodLink RX8 159 yX5_about]
def wsX8_coin : List Cond := .code yX8_coin cX8_coin 3 (some .int) :: ((wsX8_coin_r1 ++ (wsX8_coin_r2 ++ wsX8_coin_r3)) ++ wsX80 ++ wsX50)
def wsX8_far : List Cond := .code yX8_far cX8_far 3 (some .int) :: ([.fieldLink RX8 57 "PenniesAway" "kingdom" "LPenniesAway$Realm;", .fieldLink RX8 185 "PenniesAway$Realm" "told" "Z", .constant RX8 168 (-1000002), .constant RX8 80 (-1000001), .methodLink RX8 76 yX8_outside, .static yX8_outside, .initialized RX8, .code yX8_outside cX8_outside 3 (some .boolean), .methodLink RX8 215 yX5_distance, .instanceMethod yX5_distance, .selects RX5 yX5_distance yX5_distance, .initialized RX5, .code yX5_distance cX5_distance 4 (some .int), .fieldLink RX5 11 "PenniesAway$Realm" "ways" "[I", .constant RX5 38 (1000000), .constant RX5 61 (-1000000)] ++ wsX80 ++ wsX50)
def wsX8_late_r1 : List Cond := [Cond.fieldLink RX8 57 "PenniesAway" "kingdom" "LPenniesAway$Realm;", Cond.fieldLink RX8 185 "PenniesAway$Realm" "told" "Z", Cond.constant RX8 168 (-1000002), Cond.methodLink RX8 218 yX5_lateCoins, Cond.instanceMethod yX5_lateCoins, Cond.selects RX5 yX5_lateCoins yX5_lateCoins, Cond.initialized RX5, Cond.code yX5_lateCoins cX5_lateCoins 3 (some .int), Cond.fieldLink RX5 35 "PenniesAway$Realm" "coins" "I", Cond.methodLink RX5 103 yX5_slackOf, Cond.instanceMethod yX5_slackOf, Cond.selects RX5 yX5_slackOf yX5_slackOf, Cond.code yX5_slackOf cX5_slackOf 2 (some .int), Cond.methodLink RX5 100 yX5_slackWithMint, Cond.instanceMethod yX5_slackWithMint, Cond.selects RX5 yX5_slackWithMint yX5_slackWithMint, Cond.code yX5_slackWithMint cX5_slackWithMint 5 (some .int), Cond.constant RX5 61 (-1000000), Cond.fieldLink RX5 11 "PenniesAway$Realm" "ways" "[I", Cond.methodLink RX5 51 Lib.Math.min.name, Cond.static Lib.Math.min.name, Cond.initialized "java/lang/Math", Cond.code Lib.Math.min.name Lib.Math.min.code 2 (some .int), Cond.constant RX5 38 (1000000)]
def wsX8_late_r2 : List Cond := [Cond.methodLink RX5 78 yX5_dumb, Cond.instanceMethod yX5_dumb, Cond.selects RX5 yX5_dumb yX5_dumb, Cond.code yX5_dumb cX5_dumb 2 (some .boolean), Cond.methodLink RX5 62 yX5_about, Cond.instanceMethod yX5_about, Cond.selects RX5 yX5_about yX5_about, Cond.code yX5_about cX5_about 3 (some .int), Cond.fieldLink RX5 21 "PenniesAway$Realm" "changing" "[I", Cond.methodLink RX5 88 yX5_forged, Cond.instanceMethod yX5_forged, Cond.selects RX5 yX5_forged yX5_forged, Cond.code yX5_forged cX5_forged 2 (some .boolean), Cond.fieldLink RX5 18 "PenniesAway$Realm" "kinds" "[I", Cond.methodLink RX5 71 yX5_townOf, Cond.instanceMethod yX5_townOf, Cond.selects RX5 yX5_townOf yX5_townOf, Cond.code yX5_townOf cX5_townOf 2 (some .int), Cond.fieldLink RX5 15 "PenniesAway$Realm" "towns" "[I", Cond.methodLink RX5 67 yX5_withHolder, Cond.instanceMethod yX5_withHolder, Cond.selects RX5 yX5_withHolder yX5_withHolder, Cond.code yX5_withHolder cX5_withHolder 2 (some .boolean), Cond.methodLink RX5 91 yX5_spanOf]
def wsX8_late_r3 : List Cond := [Cond.instanceMethod yX5_spanOf, Cond.selects RX5 yX5_spanOf yX5_spanOf, Cond.code yX5_spanOf cX5_spanOf 2 (some .int), Cond.fieldLink RX5 28 "PenniesAway$Realm" "leave" "I", Cond.methodLink RX5 106 yX5_isLate, Cond.static yX5_isLate, Cond.code yX5_isLate cX5_isLate 1 (some .boolean)]
def wsX8_late : List Cond := .code yX8_late cX8_late 1 (some .int) :: ((wsX8_late_r1 ++ (wsX8_late_r2 ++ wsX8_late_r3)) ++ wsX80 ++ wsX50)
def wsX8_mustGo_r1 : List Cond := [Cond.fieldLink RX8 57 "PenniesAway" "kingdom" "LPenniesAway$Realm;", Cond.fieldLink RX8 185 "PenniesAway$Realm" "told" "Z", Cond.constant RX8 168 (-1000002), Cond.constant RX8 80 (-1000001), Cond.methodLink RX8 76 yX8_outside, Cond.static yX8_outside, Cond.initialized RX8, Cond.code yX8_outside cX8_outside 3 (some .boolean), Cond.methodLink RX8 221 yX5_coinsToGo, Cond.instanceMethod yX5_coinsToGo, Cond.selects RX5 yX5_coinsToGo yX5_coinsToGo, Cond.initialized RX5, Cond.code yX5_coinsToGo cX5_coinsToGo 5 (some .int), Cond.fieldLink RX5 35 "PenniesAway$Realm" "coins" "I", Cond.methodLink RX5 109 yX5_slackAtHolder, Cond.instanceMethod yX5_slackAtHolder, Cond.selects RX5 yX5_slackAtHolder yX5_slackAtHolder, Cond.code yX5_slackAtHolder cX5_slackAtHolder 2 (some .int), Cond.constant RX5 61 (-1000000), Cond.methodLink RX5 67 yX5_withHolder, Cond.instanceMethod yX5_withHolder, Cond.selects RX5 yX5_withHolder yX5_withHolder, Cond.code yX5_withHolder cX5_withHolder 2 (some .boolean), Cond.methodLink RX5 62 yX5_about]
def wsX8_mustGo_r2 : List Cond := [Cond.instanceMethod yX5_about, Cond.selects RX5 yX5_about yX5_about, Cond.code yX5_about cX5_about 3 (some .int), Cond.fieldLink RX5 21 "PenniesAway$Realm" "changing" "[I", Cond.methodLink RX5 100 yX5_slackWithMint, Cond.instanceMethod yX5_slackWithMint, Cond.selects RX5 yX5_slackWithMint yX5_slackWithMint, Cond.code yX5_slackWithMint cX5_slackWithMint 5 (some .int), Cond.fieldLink RX5 11 "PenniesAway$Realm" "ways" "[I", Cond.methodLink RX5 51 Lib.Math.min.name, Cond.static Lib.Math.min.name, Cond.initialized "java/lang/Math", Cond.code Lib.Math.min.name Lib.Math.min.code 2 (some .int), Cond.constant RX5 38 (1000000), Cond.methodLink RX5 78 yX5_dumb, Cond.instanceMethod yX5_dumb, Cond.selects RX5 yX5_dumb yX5_dumb, Cond.code yX5_dumb cX5_dumb 2 (some .boolean), Cond.methodLink RX5 88 yX5_forged, Cond.instanceMethod yX5_forged, Cond.selects RX5 yX5_forged yX5_forged, Cond.code yX5_forged cX5_forged 2 (some .boolean), Cond.fieldLink RX5 18 "PenniesAway$Realm" "kinds" "[I", Cond.methodLink RX5 71 yX5_townOf]
def wsX8_mustGo_r3 : List Cond := [Cond.instanceMethod yX5_townOf, Cond.selects RX5 yX5_townOf yX5_townOf, Cond.code yX5_townOf cX5_townOf 2 (some .int), Cond.fieldLink RX5 15 "PenniesAway$Realm" "towns" "[I", Cond.methodLink RX5 91 yX5_spanOf, Cond.instanceMethod yX5_spanOf, Cond.selects RX5 yX5_spanOf yX5_spanOf, Cond.code yX5_spanOf cX5_spanOf 2 (some .int), Cond.fieldLink RX5 28 "PenniesAway$Realm" "leave" "I"]
def wsX8_mustGo : List Cond := .code yX8_mustGo cX8_mustGo 2 (some .int) :: ((wsX8_mustGo_r1 ++ (wsX8_mustGo_r2 ++ wsX8_mustGo_r3)) ++ wsX80 ++ wsX50)
def wsX8_save_r1 : List Cond := [Cond.fieldLink RX8 57 "PenniesAway" "kingdom" "LPenniesAway$Realm;", Cond.fieldLink RX8 185 "PenniesAway$Realm" "told" "Z", Cond.constant RX8 168 (-1000002), Cond.constant RX8 80 (-1000001), Cond.methodLink RX8 76 yX8_outside, Cond.static yX8_outside, Cond.initialized RX8, Cond.code yX8_outside cX8_outside 3 (some .boolean), Cond.methodLink RX8 224 yX5_coinsForMessengers, Cond.instanceMethod yX5_coinsForMessengers, Cond.selects RX5 yX5_coinsForMessengers yX5_coinsForMessengers, Cond.initialized RX5, Cond.code yX5_coinsForMessengers cX5_coinsForMessengers 4 (some .int), Cond.methodLink RX5 112 yX5_mostPressing, Cond.instanceMethod yX5_mostPressing, Cond.selects RX5 yX5_mostPressing yX5_mostPressing, Cond.code yX5_mostPressing cX5_mostPressing 6 (some .int), Cond.constant RX5 38 (1000000), Cond.fieldLink RX5 35 "PenniesAway$Realm" "coins" "I", Cond.methodLink RX5 109 yX5_slackAtHolder, Cond.instanceMethod yX5_slackAtHolder, Cond.selects RX5 yX5_slackAtHolder yX5_slackAtHolder, Cond.code yX5_slackAtHolder cX5_slackAtHolder 2 (some .int), Cond.constant RX5 61 (-1000000)]
def wsX8_save_r2 : List Cond := [Cond.methodLink RX5 67 yX5_withHolder, Cond.instanceMethod yX5_withHolder, Cond.selects RX5 yX5_withHolder yX5_withHolder, Cond.code yX5_withHolder cX5_withHolder 2 (some .boolean), Cond.methodLink RX5 62 yX5_about, Cond.instanceMethod yX5_about, Cond.selects RX5 yX5_about yX5_about, Cond.code yX5_about cX5_about 3 (some .int), Cond.fieldLink RX5 21 "PenniesAway$Realm" "changing" "[I", Cond.methodLink RX5 100 yX5_slackWithMint, Cond.instanceMethod yX5_slackWithMint, Cond.selects RX5 yX5_slackWithMint yX5_slackWithMint, Cond.code yX5_slackWithMint cX5_slackWithMint 5 (some .int), Cond.fieldLink RX5 11 "PenniesAway$Realm" "ways" "[I", Cond.methodLink RX5 51 Lib.Math.min.name, Cond.static Lib.Math.min.name, Cond.initialized "java/lang/Math", Cond.code Lib.Math.min.name Lib.Math.min.code 2 (some .int), Cond.methodLink RX5 78 yX5_dumb, Cond.instanceMethod yX5_dumb, Cond.selects RX5 yX5_dumb yX5_dumb, Cond.code yX5_dumb cX5_dumb 2 (some .boolean), Cond.methodLink RX5 88 yX5_forged, Cond.instanceMethod yX5_forged]
def wsX8_save_r3 : List Cond := [Cond.selects RX5 yX5_forged yX5_forged, Cond.code yX5_forged cX5_forged 2 (some .boolean), Cond.fieldLink RX5 18 "PenniesAway$Realm" "kinds" "[I", Cond.methodLink RX5 71 yX5_townOf, Cond.instanceMethod yX5_townOf, Cond.selects RX5 yX5_townOf yX5_townOf, Cond.code yX5_townOf cX5_townOf 2 (some .int), Cond.fieldLink RX5 15 "PenniesAway$Realm" "towns" "[I", Cond.methodLink RX5 91 yX5_spanOf, Cond.instanceMethod yX5_spanOf, Cond.selects RX5 yX5_spanOf yX5_spanOf, Cond.code yX5_spanOf cX5_spanOf 2 (some .int), Cond.fieldLink RX5 28 "PenniesAway$Realm" "leave" "I"]
def wsX8_save : List Cond := .code yX8_save cX8_save 2 (some .int) :: ((wsX8_save_r1 ++ (wsX8_save_r2 ++ wsX8_save_r3)) ++ wsX80 ++ wsX50)
def wsX8_tour_r1 : List Cond := [Cond.fieldLink RX8 57 "PenniesAway" "kingdom" "LPenniesAway$Realm;", Cond.fieldLink RX8 185 "PenniesAway$Realm" "told" "Z", Cond.constant RX8 168 (-1000002), Cond.fieldLink RX8 156 "PenniesAway$Realm" "holders" "I", Cond.constant RX8 80 (-1000001), Cond.fieldLink RX8 45 "PenniesAway" "carrier" "LPenniesAway$Carrier;", Cond.constant RX8 231 (-1000000), Cond.methodLink RX8 76 yX8_outside, Cond.static yX8_outside, Cond.initialized RX8, Cond.code yX8_outside cX8_outside 3 (some .boolean), Cond.methodLink RX8 227 yX2_plan, Cond.instanceMethod yX2_plan, Cond.selects RX2 yX2_plan yX2_plan, Cond.initialized RX2, Cond.code yX2_plan cX2_plan 3 (some .int), Cond.fieldLink RX2 20 "PenniesAway$Carrier" "stops" "I", Cond.constant RX2 24 (-1000000), Cond.fieldLink RX2 25 "PenniesAway$Carrier" "fewest" "I", Cond.methodLink RX2 28 yJ6_bitCount_0f7a4, Cond.static yJ6_bitCount_0f7a4, Cond.initialized RJ6, Cond.code yJ6_bitCount_0f7a4 cJ6_bitCount_0f7a4 1 (some .int), Cond.constant RJ6 265 (1431655765)]
def wsX8_tour_r2 : List Cond := [Cond.constant RJ6 266 (858993459), Cond.constant RJ6 267 (252645135), Cond.methodLink RX2 34 yX2_goOn, Cond.instanceMethod yX2_goOn, Cond.selects RX2 yX2_goOn yX2_goOn, Cond.code yX2_goOn cX2_goOn 8 none, Cond.fieldLink RX2 50 "PenniesAway$Realm" "holders" "I", Cond.fieldLink RX2 53 "PenniesAway$Realm" "towns" "[I", Cond.fieldLink RX2 17 "PenniesAway$Carrier" "path" "[I", Cond.methodLink RX2 42 yX5_distance, Cond.instanceMethod yX5_distance, Cond.selects RX5 yX5_distance yX5_distance, Cond.initialized RX5, Cond.code yX5_distance cX5_distance 4 (some .int), Cond.fieldLink RX5 11 "PenniesAway$Realm" "ways" "[I", Cond.constant RX5 38 (1000000), Cond.constant RX5 61 (-1000000), Cond.methodLink RX2 46 yX2_comeHome, Cond.instanceMethod yX2_comeHome, Cond.selects RX2 yX2_comeHome yX2_comeHome, Cond.code yX2_comeHome cX2_comeHome 3 none, Cond.fieldLink RX2 11 "PenniesAway$Carrier" "order" "[I", Cond.methodLink RX2 56 arraycopyName, Cond.native arraycopyName]
def wsX8_tour_r3 : List Cond := [Cond.static arraycopyName, Cond.initialized "java/lang/System", Cond.methodLink RX8 232 yX5_savedByTour, Cond.instanceMethod yX5_savedByTour, Cond.selects RX5 yX5_savedByTour yX5_savedByTour, Cond.code yX5_savedByTour cX5_savedByTour 6 (some .int), Cond.fieldLink RX5 35 "PenniesAway$Realm" "coins" "I", Cond.methodLink RX5 67 yX5_withHolder, Cond.instanceMethod yX5_withHolder, Cond.selects RX5 yX5_withHolder yX5_withHolder, Cond.code yX5_withHolder cX5_withHolder 2 (some .boolean), Cond.methodLink RX5 62 yX5_about, Cond.instanceMethod yX5_about, Cond.selects RX5 yX5_about yX5_about, Cond.code yX5_about cX5_about 3 (some .int), Cond.fieldLink RX5 21 "PenniesAway$Realm" "changing" "[I", Cond.methodLink RX5 88 yX5_forged, Cond.instanceMethod yX5_forged, Cond.selects RX5 yX5_forged yX5_forged, Cond.code yX5_forged cX5_forged 2 (some .boolean), Cond.fieldLink RX5 18 "PenniesAway$Realm" "kinds" "[I", Cond.methodLink RX5 78 yX5_dumb, Cond.instanceMethod yX5_dumb, Cond.selects RX5 yX5_dumb yX5_dumb]
def wsX8_tour_r4 : List Cond := [Cond.code yX5_dumb cX5_dumb 2 (some .boolean), Cond.methodLink RX5 91 yX5_spanOf, Cond.instanceMethod yX5_spanOf, Cond.selects RX5 yX5_spanOf yX5_spanOf, Cond.code yX5_spanOf cX5_spanOf 2 (some .int), Cond.fieldLink RX5 28 "PenniesAway$Realm" "leave" "I", Cond.methodLink RX8 235 yX2_stop, Cond.instanceMethod yX2_stop, Cond.selects RX2 yX2_stop yX2_stop, Cond.code yX2_stop cX2_stop 2 (some .int)]
def wsX8_tour : List Cond := .code yX8_tour cX8_tour 4 (some .int) :: ((wsX8_tour_r1 ++ (wsX8_tour_r2 ++ (wsX8_tour_r3 ++ wsX8_tour_r4))) ++ wsX80 ++ wsX50 ++ wsX20)
def wsX8_mint_r1 : List Cond := [Cond.fieldLink RX8 57 "PenniesAway" "kingdom" "LPenniesAway$Realm;", Cond.fieldLink RX8 185 "PenniesAway$Realm" "told" "Z", Cond.constant RX8 168 (-1000002), Cond.constant RX8 80 (-1000001), Cond.methodLink RX8 76 yX8_outside, Cond.static yX8_outside, Cond.initialized RX8, Cond.code yX8_outside cX8_outside 3 (some .boolean), Cond.methodLink RX8 238 yX5_bestSecondMint, Cond.instanceMethod yX5_bestSecondMint, Cond.selects RX5 yX5_bestSecondMint yX5_bestSecondMint, Cond.initialized RX5, Cond.code yX5_bestSecondMint cX5_bestSecondMint 3 (some .int), Cond.methodLink RX5 115 yX5_lateWithMint, Cond.instanceMethod yX5_lateWithMint, Cond.selects RX5 yX5_lateWithMint yX5_lateWithMint, Cond.code yX5_lateWithMint cX5_lateWithMint 4 (some .int), Cond.fieldLink RX5 35 "PenniesAway$Realm" "coins" "I", Cond.methodLink RX5 100 yX5_slackWithMint, Cond.instanceMethod yX5_slackWithMint, Cond.selects RX5 yX5_slackWithMint yX5_slackWithMint, Cond.code yX5_slackWithMint cX5_slackWithMint 5 (some .int), Cond.constant RX5 61 (-1000000), Cond.fieldLink RX5 11 "PenniesAway$Realm" "ways" "[I"]
def wsX8_mint_r2 : List Cond := [Cond.methodLink RX5 51 Lib.Math.min.name, Cond.static Lib.Math.min.name, Cond.initialized "java/lang/Math", Cond.code Lib.Math.min.name Lib.Math.min.code 2 (some .int), Cond.constant RX5 38 (1000000), Cond.methodLink RX5 78 yX5_dumb, Cond.instanceMethod yX5_dumb, Cond.selects RX5 yX5_dumb yX5_dumb, Cond.code yX5_dumb cX5_dumb 2 (some .boolean), Cond.methodLink RX5 62 yX5_about, Cond.instanceMethod yX5_about, Cond.selects RX5 yX5_about yX5_about, Cond.code yX5_about cX5_about 3 (some .int), Cond.fieldLink RX5 21 "PenniesAway$Realm" "changing" "[I", Cond.methodLink RX5 88 yX5_forged, Cond.instanceMethod yX5_forged, Cond.selects RX5 yX5_forged yX5_forged, Cond.code yX5_forged cX5_forged 2 (some .boolean), Cond.fieldLink RX5 18 "PenniesAway$Realm" "kinds" "[I", Cond.methodLink RX5 71 yX5_townOf, Cond.instanceMethod yX5_townOf, Cond.selects RX5 yX5_townOf yX5_townOf, Cond.code yX5_townOf cX5_townOf 2 (some .int), Cond.fieldLink RX5 15 "PenniesAway$Realm" "towns" "[I"]
def wsX8_mint_r3 : List Cond := [Cond.methodLink RX5 67 yX5_withHolder, Cond.instanceMethod yX5_withHolder, Cond.selects RX5 yX5_withHolder yX5_withHolder, Cond.code yX5_withHolder cX5_withHolder 2 (some .boolean), Cond.methodLink RX5 91 yX5_spanOf, Cond.instanceMethod yX5_spanOf, Cond.selects RX5 yX5_spanOf yX5_spanOf, Cond.code yX5_spanOf cX5_spanOf 2 (some .int), Cond.fieldLink RX5 28 "PenniesAway$Realm" "leave" "I", Cond.methodLink RX5 106 yX5_isLate, Cond.static yX5_isLate, Cond.code yX5_isLate cX5_isLate 1 (some .boolean), Cond.methodLink RX8 241 yX5_lateWithMint]
def wsX8_mint : List Cond := .code yX8_mint cX8_mint 3 (some .int) :: ((wsX8_mint_r1 ++ (wsX8_mint_r2 ++ wsX8_mint_r3)) ++ wsX80 ++ wsX50)
def wsX8_sounds_r1 : List Cond := [Cond.fieldLink RX8 57 "PenniesAway" "kingdom" "LPenniesAway$Realm;", Cond.fieldLink RX8 185 "PenniesAway$Realm" "told" "Z", Cond.constant RX8 168 (-1000002), Cond.constant RX8 80 (-1000001), Cond.methodLink RX8 76 yX8_outside, Cond.static yX8_outside, Cond.initialized RX8, Cond.code yX8_outside cX8_outside 3 (some .boolean), Cond.methodLink RX8 244 yX5_soundingIn, Cond.instanceMethod yX5_soundingIn, Cond.selects RX5 yX5_soundingIn yX5_soundingIn, Cond.initialized RX5, Cond.code yX5_soundingIn cX5_soundingIn 5 (some .int), Cond.fieldLink RX5 35 "PenniesAway$Realm" "coins" "I", Cond.methodLink RX5 67 yX5_withHolder, Cond.instanceMethod yX5_withHolder, Cond.selects RX5 yX5_withHolder yX5_withHolder, Cond.code yX5_withHolder cX5_withHolder 2 (some .boolean), Cond.methodLink RX5 62 yX5_about, Cond.instanceMethod yX5_about, Cond.selects RX5 yX5_about yX5_about, Cond.code yX5_about cX5_about 3 (some .int), Cond.fieldLink RX5 21 "PenniesAway$Realm" "changing" "[I", Cond.methodLink RX5 71 yX5_townOf]
def wsX8_sounds_r2 : List Cond := [Cond.instanceMethod yX5_townOf, Cond.selects RX5 yX5_townOf yX5_townOf, Cond.code yX5_townOf cX5_townOf 2 (some .int), Cond.fieldLink RX5 15 "PenniesAway$Realm" "towns" "[I", Cond.methodLink RX5 118 yX5_soundsAfter, Cond.instanceMethod yX5_soundsAfter, Cond.selects RX5 yX5_soundsAfter yX5_soundsAfter, Cond.code yX5_soundsAfter cX5_soundsAfter 3 (some .boolean), Cond.methodLink RX5 78 yX5_dumb, Cond.instanceMethod yX5_dumb, Cond.selects RX5 yX5_dumb yX5_dumb, Cond.code yX5_dumb cX5_dumb 2 (some .boolean), Cond.methodLink RX5 88 yX5_forged, Cond.instanceMethod yX5_forged, Cond.selects RX5 yX5_forged yX5_forged, Cond.code yX5_forged cX5_forged 2 (some .boolean), Cond.fieldLink RX5 18 "PenniesAway$Realm" "kinds" "[I", Cond.methodLink RX5 91 yX5_spanOf, Cond.instanceMethod yX5_spanOf, Cond.selects RX5 yX5_spanOf yX5_spanOf, Cond.code yX5_spanOf cX5_spanOf 2 (some .int), Cond.fieldLink RX5 28 "PenniesAway$Realm" "leave" "I"]
def wsX8_sounds : List Cond := .code yX8_sounds cX8_sounds 3 (some .int) :: ((wsX8_sounds_r1 ++ wsX8_sounds_r2) ++ wsX80 ++ wsX50)
def wsX8_power : List Cond := .code yX8_power cX8_power 4 (some .int) :: ([])
def wsX8_commonDivisor : List Cond := .code yX8_commonDivisor cX8_commonDivisor 6 (some .int) :: ([.methodLink RX8 282 Lib.Math.max.name, .static Lib.Math.max.name, .initialized "java/lang/Math", .code Lib.Math.max.name Lib.Math.max.code 2 (some .int)])
def wsX8_ear : List Cond := .code yX8_ear cX8_ear 9 (some .int) :: ([.constant RX8 80 (-1000001), .methodLink RX8 76 yX8_outside, .static yX8_outside, .initialized RX8, .code yX8_outside cX8_outside 3 (some .boolean), .methodLink RX8 247 yX8_power, .static yX8_power, .code yX8_power cX8_power 4 (some .int), .methodLink RX8 250 yX8_commonDivisor, .static yX8_commonDivisor, .code yX8_commonDivisor cX8_commonDivisor 6 (some .int), .methodLink RX8 282 Lib.Math.max.name, .static Lib.Math.max.name, .initialized "java/lang/Math", .code Lib.Math.max.name Lib.Math.max.code 2 (some .int)])
def wsX8_image_r1 : List Cond := [Cond.constant RX8 80 (-1000001), Cond.fieldLink RX8 57 "PenniesAway" "kingdom" "LPenniesAway$Realm;", Cond.fieldLink RX8 185 "PenniesAway$Realm" "told" "Z", Cond.constant RX8 168 (-1000002), Cond.fieldLink RX8 17 "PenniesAway" "images" "[LPenniesAway$Realm;", Cond.methodLink RX8 76 yX8_outside, Cond.static yX8_outside, Cond.initialized RX8, Cond.code yX8_outside cX8_outside 3 (some .boolean), Cond.methodLink RX8 253 yX5_takeFrom, Cond.instanceMethod yX5_takeFrom, Cond.selects RX5 yX5_takeFrom yX5_takeFrom, Cond.initialized RX5, Cond.code yX5_takeFrom cX5_takeFrom 2 none, Cond.fieldLink RX5 11 "PenniesAway$Realm" "ways" "[I", Cond.methodLink RX5 45 arraycopyName, Cond.native arraycopyName, Cond.static arraycopyName, Cond.initialized "java/lang/System", Cond.fieldLink RX5 15 "PenniesAway$Realm" "towns" "[I", Cond.fieldLink RX5 18 "PenniesAway$Realm" "kinds" "[I", Cond.fieldLink RX5 21 "PenniesAway$Realm" "changing" "[I", Cond.fieldLink RX5 24 "PenniesAway$Realm" "told" "Z", Cond.fieldLink RX5 28 "PenniesAway$Realm" "leave" "I"]
def wsX8_image_r2 : List Cond := [Cond.fieldLink RX5 32 "PenniesAway$Realm" "holders" "I", Cond.fieldLink RX5 35 "PenniesAway$Realm" "coins" "I"]
def wsX8_image : List Cond := .code yX8_image cX8_image 2 (some .int) :: ((wsX8_image_r1 ++ wsX8_image_r2) ++ wsX80 ++ wsX50)
def wsX8_restore_r1 : List Cond := [Cond.constant RX8 80 (-1000001), Cond.fieldLink RX8 17 "PenniesAway" "images" "[LPenniesAway$Realm;", Cond.fieldLink RX8 185 "PenniesAway$Realm" "told" "Z", Cond.constant RX8 168 (-1000002), Cond.fieldLink RX8 57 "PenniesAway" "kingdom" "LPenniesAway$Realm;", Cond.fieldLink RX8 38 "PenniesAway" "acts" "LPenniesAway$Acts;", Cond.methodLink RX8 76 yX8_outside, Cond.static yX8_outside, Cond.initialized RX8, Cond.code yX8_outside cX8_outside 3 (some .boolean), Cond.methodLink RX8 253 yX5_takeFrom, Cond.instanceMethod yX5_takeFrom, Cond.selects RX5 yX5_takeFrom yX5_takeFrom, Cond.initialized RX5, Cond.code yX5_takeFrom cX5_takeFrom 2 none, Cond.fieldLink RX5 11 "PenniesAway$Realm" "ways" "[I", Cond.methodLink RX5 45 arraycopyName, Cond.native arraycopyName, Cond.static arraycopyName, Cond.initialized "java/lang/System", Cond.fieldLink RX5 15 "PenniesAway$Realm" "towns" "[I", Cond.fieldLink RX5 18 "PenniesAway$Realm" "kinds" "[I", Cond.fieldLink RX5 21 "PenniesAway$Realm" "changing" "[I", Cond.fieldLink RX5 24 "PenniesAway$Realm" "told" "Z"]
def wsX8_restore_r2 : List Cond := [Cond.fieldLink RX5 28 "PenniesAway$Realm" "leave" "I", Cond.fieldLink RX5 32 "PenniesAway$Realm" "holders" "I", Cond.fieldLink RX5 35 "PenniesAway$Realm" "coins" "I", Cond.methodLink RX8 147 yX0_forgetAll, Cond.instanceMethod yX0_forgetAll, Cond.selects RX0 yX0_forgetAll yX0_forgetAll, Cond.initialized RX0, Cond.code yX0_forgetAll cX0_forgetAll 1 none, Cond.fieldLink RX0 16 "PenniesAway$Acts" "next" "I", Cond.fieldLink RX0 20 "PenniesAway$Acts" "kept" "I"]
def wsX8_restore : List Cond := .code yX8_restore cX8_restore 2 (some .int) :: ((wsX8_restore_r1 ++ wsX8_restore_r2) ++ wsX80 ++ wsX50 ++ wsX00)
def wsX8_kind : List Cond := .code yX8_kind cX8_kind 2 (some .int) :: ([.constant RX8 80 (-1000001), .fieldLink RX8 57 "PenniesAway" "kingdom" "LPenniesAway$Realm;", .fieldLink RX8 257 "PenniesAway$Realm" "kinds" "[I", .methodLink RX8 153 yX8_noCoin, .instanceMethod yX8_noCoin, .selects RX8 yX8_noCoin yX8_noCoin, .initialized RX8, .code yX8_noCoin cX8_noCoin 2 (some .boolean), .fieldLink RX8 150 "PenniesAway$Realm" "coins" "I", .methodLink RX8 76 yX8_outside, .static yX8_outside, .code yX8_outside cX8_outside 3 (some .boolean)] ++ wsX80 ++ wsX50)
def wsX8_as_r1 : List Cond := [Cond.constant RX8 80 (-1000001), Cond.fieldLink RX8 57 "PenniesAway" "kingdom" "LPenniesAway$Realm;", Cond.fieldLink RX8 257 "PenniesAway$Realm" "kinds" "[I", Cond.methodLink RX8 153 yX8_noCoin, Cond.instanceMethod yX8_noCoin, Cond.selects RX8 yX8_noCoin yX8_noCoin, Cond.initialized RX8, Cond.code yX8_noCoin cX8_noCoin 2 (some .boolean), Cond.fieldLink RX8 150 "PenniesAway$Realm" "coins" "I", Cond.methodLink RX8 76 yX8_outside, Cond.static yX8_outside, Cond.code yX8_outside cX8_outside 3 (some .boolean), Cond.methodLink RX8 262 yX3_isOne, Cond.static yX3_isOne, Cond.initialized RX3, Cond.code yX3_isOne cX3_isOne 4 (some .boolean), Cond.methodLink RX3 19 yX3_nextOf, Cond.static yX3_nextOf, Cond.code yX3_nextOf cX3_nextOf 1 (some .int), Cond.fieldLink RX3 15 "PenniesAway$Kinds" "NEXT" "[I", Cond.methodLink RX8 81 yX8_found, Cond.instanceMethod yX8_found, Cond.selects RX8 yX8_found yX8_found, Cond.code yX8_found cX8_found 2 (some .int)]
def wsX8_as_r2 : List Cond := [Cond.fieldLink RX8 64 "PenniesAway" "latestFinding" "I", Cond.constant RX8 281 (-1000010), Cond.methodLink RX8 89 yX8_answered, Cond.instanceMethod yX8_answered, Cond.selects RX8 yX8_answered yX8_answered, Cond.code yX8_answered cX8_answered 2 (some .int)]
def wsX8_as : List Cond := .code yX8_as cX8_as 3 (some .int) :: ((wsX8_as_r1 ++ wsX8_as_r2) ++ wsX80 ++ wsX50)
def wsX8_ask_r1 : List Cond := [Cond.constant RX8 80 (-1000001), Cond.fieldLink RX8 52 "PenniesAway" "asker" "LPenniesAway$Asker;", Cond.fieldLink RX8 57 "PenniesAway" "kingdom" "LPenniesAway$Realm;", Cond.methodLink RX8 153 yX8_noCoin, Cond.instanceMethod yX8_noCoin, Cond.selects RX8 yX8_noCoin yX8_noCoin, Cond.initialized RX8, Cond.code yX8_noCoin cX8_noCoin 2 (some .boolean), Cond.fieldLink RX8 150 "PenniesAway$Realm" "coins" "I", Cond.methodLink RX8 76 yX8_outside, Cond.static yX8_outside, Cond.code yX8_outside cX8_outside 3 (some .boolean), Cond.methodLink RX8 265 yX1_answer, Cond.instanceMethod yX1_answer, Cond.selects RX1 yX1_answer yX1_answer, Cond.initialized RX1, Cond.code yX1_answer cX1_answer 4 (some .int), Cond.fieldLink RX1 15 "PenniesAway$Asker" "begun" "I", Cond.fieldLink RX1 19 "PenniesAway$Asker" "number" "I", Cond.fieldLink RX1 31 "PenniesAway$Realm" "kinds" "[I", Cond.fieldLink RX1 22 "PenniesAway$Asker" "kindAsked" "I", Cond.fieldLink RX1 25 "PenniesAway$Asker" "age" "I", Cond.fieldLink RX1 28 "PenniesAway$Asker" "span" "I", Cond.methodLink RX1 36 yX5_about]
def wsX8_ask_r2 : List Cond := [Cond.instanceMethod yX5_about, Cond.selects RX5 yX5_about yX5_about, Cond.initialized RX5, Cond.code yX5_about cX5_about 3 (some .int), Cond.fieldLink RX5 21 "PenniesAway$Realm" "changing" "[I", Cond.methodLink RX1 40 yX5_spanOf, Cond.instanceMethod yX5_spanOf, Cond.selects RX5 yX5_spanOf yX5_spanOf, Cond.code yX5_spanOf cX5_spanOf 2 (some .int), Cond.fieldLink RX5 18 "PenniesAway$Realm" "kinds" "[I", Cond.fieldLink RX5 28 "PenniesAway$Realm" "leave" "I", Cond.methodLink RX1 44 yX1_bodyFor, Cond.instanceMethod yX1_bodyFor, Cond.selects RX1 yX1_bodyFor yX1_bodyFor, Cond.code yX1_bodyFor cX1_bodyFor 5 (some .int), Cond.fieldLink RX1 55 "PenniesAway$Asker" "SIZE_BODIES" "[I", Cond.fieldLink RX1 58 "PenniesAway$Asker" "MARK_BODIES" "[I", Cond.methodLink RX1 66 Lib.Math.max.name, Cond.static Lib.Math.max.name, Cond.initialized "java/lang/Math", Cond.code Lib.Math.max.name Lib.Math.max.code 2 (some .int), Cond.methodLink RX1 63 yX3_nextOf, Cond.static yX3_nextOf, Cond.initialized RX3]
def wsX8_ask_r3 : List Cond := [Cond.code yX3_nextOf cX3_nextOf 1 (some .int), Cond.fieldLink RX3 15 "PenniesAway$Kinds" "NEXT" "[I", Cond.methodLink RX1 47 yX1_begin, Cond.instanceMethod yX1_begin, Cond.selects RX1 yX1_begin yX1_begin, Cond.code yX1_begin cX1_begin 4 (some .int), Cond.methodLink RX1 71 yX1_note, Cond.instanceMethod yX1_note, Cond.selects RX1 yX1_note yX1_note, Cond.code yX1_note cX1_note 2 none, Cond.fieldLink RX1 11 "PenniesAway$Asker" "notes" "[I"]
def wsX8_ask : List Cond := .code yX8_ask cX8_ask 3 (some .int) :: ((wsX8_ask_r1 ++ (wsX8_ask_r2 ++ wsX8_ask_r3)) ++ wsX80 ++ wsX50 ++ wsX10)
def wsX8_trace : List Cond := .code yX8_trace cX8_trace 2 (some .int) :: ([.fieldLink RX8 52 "PenniesAway" "asker" "LPenniesAway$Asker;", .methodLink RX8 269 yX1_noted, .instanceMethod yX1_noted, .selects RX1 yX1_noted yX1_noted, .initialized RX1, .code yX1_noted cX1_noted 2 (some .int), .fieldLink RX1 15 "PenniesAway$Asker" "begun" "I", .constant RX1 54 (-1000000), .fieldLink RX1 11 "PenniesAway$Asker" "notes" "[I", .static yX8_outside, .initialized RX8, .code yX8_outside cX8_outside 3 (some .boolean)] ++ wsX80 ++ wsX10)
def wsX8_rowsThere : List Cond := .code yX8_rowsThere cX8_rowsThere 3 (some .int) :: ([.fieldLink RX8 11 "PenniesAway" "rows" "[LPenniesAway$Row;", .methodLink RX8 92 yX6_missing, .instanceMethod yX6_missing, .selects RX6 yX6_missing yX6_missing, .initialized RX6, .code yX6_missing cX6_missing 1 (some .boolean), .fieldLink RX6 13 "PenniesAway$Row" "lane" "I"] ++ wsX80 ++ wsX60)
def wsX8_count_r1 : List Cond := [Cond.fieldLink RX8 57 "PenniesAway" "kingdom" "LPenniesAway$Realm;", Cond.fieldLink RX8 156 "PenniesAway$Realm" "holders" "I", Cond.fieldLink RX8 150 "PenniesAway$Realm" "coins" "I", Cond.fieldLink RX8 38 "PenniesAway" "acts" "LPenniesAway$Acts;", Cond.fieldLink RX8 200 "PenniesAway$Acts" "kept" "I", Cond.fieldLink RX8 32 "PenniesAway" "tape" "LPenniesAway$Tape;", Cond.fieldLink RX8 125 "PenniesAway$Tape" "length" "I", Cond.constant RX8 80 (-1000001), Cond.methodLink RX8 272 yX8_rowsThere, Cond.instanceMethod yX8_rowsThere, Cond.selects RX8 yX8_rowsThere yX8_rowsThere, Cond.initialized RX8, Cond.code yX8_rowsThere cX8_rowsThere 3 (some .int), Cond.fieldLink RX8 11 "PenniesAway" "rows" "[LPenniesAway$Row;", Cond.methodLink RX8 92 yX6_missing, Cond.instanceMethod yX6_missing, Cond.selects RX6 yX6_missing yX6_missing, Cond.initialized RX6, Cond.code yX6_missing cX6_missing 1 (some .boolean), Cond.fieldLink RX6 13 "PenniesAway$Row" "lane" "I", Cond.methodLink RX8 189 yX5_today, Cond.instanceMethod yX5_today, Cond.selects RX5 yX5_today yX5_today, Cond.initialized RX5]
def wsX8_count_r2 : List Cond := [Cond.code yX5_today cX5_today 1 (some .int), Cond.fieldLink RX5 21 "PenniesAway$Realm" "changing" "[I", Cond.methodLink RX8 275 yX5_howMany, Cond.instanceMethod yX5_howMany, Cond.selects RX5 yX5_howMany yX5_howMany, Cond.code yX5_howMany cX5_howMany 5 (some .int), Cond.fieldLink RX5 35 "PenniesAway$Realm" "coins" "I", Cond.methodLink RX5 62 yX5_about, Cond.instanceMethod yX5_about, Cond.selects RX5 yX5_about yX5_about, Cond.code yX5_about cX5_about 3 (some .int)]
def wsX8_count : List Cond := .code yX8_count cX8_count 2 (some .int) :: ((wsX8_count_r1 ++ wsX8_count_r2) ++ wsX80 ++ wsX50 ++ wsX00 ++ wsX70 ++ wsX60)
def wsX8_status : List Cond := .code yX8_status cX8_status 1 (some .int) :: ([.fieldLink RX8 64 "PenniesAway" "latestFinding" "I"] ++ wsX80)
def wsX9_init : List Cond := .code yX9_init cX9_init 1 none :: ([.methodLink RX9 1 objectInit, .instanceMethod objectInit, .code objectInit ⟨#[0xb1]⟩ 1 none, .arrayClass .int, .fieldLink RX9 7 "PenniesAwayModel" "lane" "[I", .fieldLink RX9 13 "PenniesAwayModel" "many" "[I", .fieldLink RX9 16 "PenniesAwayModel" "item" "[I", .fieldLink RX9 19 "PenniesAwayModel" "realm" "[I", .fieldLink RX9 22 "PenniesAwayModel" "fresh" "[I", .fieldLink RX9 25 "PenniesAwayModel" "was" "[I", .fieldLink RX9 28 "PenniesAwayModel" "tape" "[I", .fieldLink RX9 31 "PenniesAwayModel" "tried" "[I", .fieldLink RX9 34 "PenniesAwayModel" "best" "[I", .arrayClass .boolean, .fieldLink RX9 37 "PenniesAwayModel" "isKept" "[Z", .fieldLink RX9 41 "PenniesAwayModel" "kept" "[I", .fieldLink RX9 44 "PenniesAwayModel" "trace" "[I"] ++ wsX90)
def wsX9_in : List Cond := .code yX9_in cX9_in 6 (some .boolean) :: ([])
def wsX9_finding : List Cond := .code yX9_finding cX9_finding 2 (some .int) :: ([.fieldLink RX9 51 "PenniesAwayModel" "status" "I", .constant RX9 54 (-1000010)] ++ wsX90)
def wsX9_isRow : List Cond := .code yX9_isRow cX9_isRow 1 (some .boolean) :: ([.constantLong RX9 55 (7), .methodLink RX9 57 yX9_in, .static yX9_in, .initialized RX9, .code yX9_in cX9_in 6 (some .boolean)])
def wsX9_row : List Cond := .code yX9_row cX9_row 5 (some .int) :: ([.fieldLink RX9 47 "PenniesAwayModel" "thrown" "I", .constantLong RX9 65 (2), .constant RX9 67 (-1000001), .fieldLink RX9 51 "PenniesAwayModel" "status" "I", .fieldLink RX9 7 "PenniesAwayModel" "lane" "[I", .fieldLink RX9 13 "PenniesAwayModel" "many" "[I", .fieldLink RX9 16 "PenniesAwayModel" "item" "[I", .methodLink RX9 61 yX9_isRow, .static yX9_isRow, .initialized RX9, .code yX9_isRow cX9_isRow 1 (some .boolean), .constantLong RX9 55 (7), .methodLink RX9 57 yX9_in, .static yX9_in, .code yX9_in cX9_in 6 (some .boolean), .methodLink RX9 68 yX9_finding, .instanceMethod yX9_finding, .selects RX9 yX9_finding yX9_finding, .code yX9_finding cX9_finding 2 (some .int), .constant RX9 54 (-1000010)] ++ wsX90)
def wsX9_set : List Cond := .code yX9_set cX9_set 4 (some .int) :: ([.fieldLink RX9 47 "PenniesAwayModel" "thrown" "I", .constant RX9 67 (-1000001), .fieldLink RX9 51 "PenniesAwayModel" "status" "I", .fieldLink RX9 7 "PenniesAwayModel" "lane" "[I", .fieldLink RX9 13 "PenniesAwayModel" "many" "[I", .fieldLink RX9 16 "PenniesAwayModel" "item" "[I", .methodLink RX9 61 yX9_isRow, .static yX9_isRow, .initialized RX9, .code yX9_isRow cX9_isRow 1 (some .boolean), .constantLong RX9 55 (7), .methodLink RX9 57 yX9_in, .static yX9_in, .code yX9_in cX9_in 6 (some .boolean), .methodLink RX9 68 yX9_finding, .instanceMethod yX9_finding, .selects RX9 yX9_finding yX9_finding, .code yX9_finding cX9_finding 2 (some .int), .constant RX9 54 (-1000010)] ++ wsX90)
def wsX9_copy : List Cond := .code yX9_copy cX9_copy 9 (some .int) :: ([.fieldLink RX9 47 "PenniesAwayModel" "thrown" "I", .constant RX9 67 (-1000001), .fieldLink RX9 51 "PenniesAwayModel" "status" "I", .fieldLink RX9 7 "PenniesAwayModel" "lane" "[I", .fieldLink RX9 13 "PenniesAwayModel" "many" "[I", .fieldLink RX9 16 "PenniesAwayModel" "item" "[I", .methodLink RX9 61 yX9_isRow, .static yX9_isRow, .initialized RX9, .code yX9_isRow cX9_isRow 1 (some .boolean), .constantLong RX9 55 (7), .methodLink RX9 57 yX9_in, .static yX9_in, .code yX9_in cX9_in 6 (some .boolean), .methodLink RX9 68 yX9_finding, .instanceMethod yX9_finding, .selects RX9 yX9_finding yX9_finding, .code yX9_finding cX9_finding 2 (some .int), .constant RX9 54 (-1000010)] ++ wsX90)
def wsX9_drop : List Cond := .code yX9_drop cX9_drop 2 (some .int) :: ([.fieldLink RX9 47 "PenniesAwayModel" "thrown" "I", .constant RX9 67 (-1000001), .fieldLink RX9 51 "PenniesAwayModel" "status" "I", .fieldLink RX9 7 "PenniesAwayModel" "lane" "[I", .fieldLink RX9 13 "PenniesAwayModel" "many" "[I", .methodLink RX9 61 yX9_isRow, .static yX9_isRow, .initialized RX9, .code yX9_isRow cX9_isRow 1 (some .boolean), .constantLong RX9 55 (7), .methodLink RX9 57 yX9_in, .static yX9_in, .code yX9_in cX9_in 6 (some .boolean), .methodLink RX9 68 yX9_finding, .instanceMethod yX9_finding, .selects RX9 yX9_finding yX9_finding, .code yX9_finding cX9_finding 2 (some .int), .constant RX9 54 (-1000010)] ++ wsX90)
def wsX9_feed : List Cond := .code yX9_feed cX9_feed 5 (some .int) :: ([.fieldLink RX9 47 "PenniesAwayModel" "thrown" "I", .constantLong RX9 72 (8), .constant RX9 67 (-1000001), .fieldLink RX9 74 "PenniesAwayModel" "taped" "I", .constant RX9 77 (-1000003), .fieldLink RX9 28 "PenniesAwayModel" "tape" "[I", .constantLong RX9 78 (255), .methodLink RX9 57 yX9_in, .static yX9_in, .initialized RX9, .code yX9_in cX9_in 6 (some .boolean)] ++ wsX90)
def wsX9_byteAt : List Cond := .code yX9_byteAt cX9_byteAt 2 (some .int) :: ([.fieldLink RX9 80 "PenniesAwayModel" "length" "I", .fieldLink RX9 28 "PenniesAwayModel" "tape" "[I", .constant RX9 83 (-1000000)] ++ wsX90)
def wsX9_isLetter : List Cond := .code yX9_isLetter cX9_isLetter 1 (some .boolean) :: ([])
def wsX9_isFigure : List Cond := .code yX9_isFigure cX9_isFigure 1 (some .boolean) :: ([])
def wsX9_next : List Cond := .code yX9_next cX9_next 2 none :: ([.fieldLink RX9 84 "PenniesAwayModel" "cursor" "I", .fieldLink RX9 90 "PenniesAwayModel" "start" "I", .constant RX9 83 (-1000000), .fieldLink RX9 93 "PenniesAwayModel" "token" "I", .fieldLink RX9 102 "PenniesAwayModel" "till" "I", .methodLink RX9 87 yX9_byteAt, .instanceMethod yX9_byteAt, .selects RX9 yX9_byteAt yX9_byteAt, .initialized RX9, .code yX9_byteAt cX9_byteAt 2 (some .int), .fieldLink RX9 80 "PenniesAwayModel" "length" "I", .fieldLink RX9 28 "PenniesAwayModel" "tape" "[I", .methodLink RX9 96 yX9_isLetter, .static yX9_isLetter, .code yX9_isLetter cX9_isLetter 1 (some .boolean), .methodLink RX9 99 yX9_isFigure, .static yX9_isFigure, .code yX9_isFigure cX9_isFigure 1 (some .boolean)] ++ wsX90)
def wsX9_begin : List Cond := .code yX9_begin cX9_begin 1 none :: ([.fieldLink RX9 74 "PenniesAwayModel" "taped" "I", .fieldLink RX9 80 "PenniesAwayModel" "length" "I", .fieldLink RX9 84 "PenniesAwayModel" "cursor" "I", .fieldLink RX9 105 "PenniesAwayModel" "fault" "I", .methodLink RX9 108 yX9_next, .instanceMethod yX9_next, .selects RX9 yX9_next yX9_next, .initialized RX9, .code yX9_next cX9_next 2 none, .fieldLink RX9 90 "PenniesAwayModel" "start" "I", .constant RX9 83 (-1000000), .fieldLink RX9 93 "PenniesAwayModel" "token" "I", .fieldLink RX9 102 "PenniesAwayModel" "till" "I", .methodLink RX9 87 yX9_byteAt, .instanceMethod yX9_byteAt, .selects RX9 yX9_byteAt yX9_byteAt, .code yX9_byteAt cX9_byteAt 2 (some .int), .fieldLink RX9 28 "PenniesAwayModel" "tape" "[I", .methodLink RX9 96 yX9_isLetter, .static yX9_isLetter, .code yX9_isLetter cX9_isLetter 1 (some .boolean), .methodLink RX9 99 yX9_isFigure, .static yX9_isFigure, .code yX9_isFigure cX9_isFigure 1 (some .boolean)] ++ wsX90)
def wsX9_bad : List Cond := .code yX9_bad cX9_bad 2 none :: ([.fieldLink RX9 105 "PenniesAwayModel" "fault" "I", .fieldLink RX9 90 "PenniesAwayModel" "start" "I", .fieldLink RX9 111 "PenniesAwayModel" "faultAt" "I"] ++ wsX90)
def wsX9_must_r1 : List Cond := [Cond.fieldLink RX9 105 "PenniesAwayModel" "fault" "I", Cond.methodLink RX9 114 yX9_bad, Cond.instanceMethod yX9_bad, Cond.selects RX9 yX9_bad yX9_bad, Cond.initialized RX9, Cond.code yX9_bad cX9_bad 2 none, Cond.fieldLink RX9 90 "PenniesAwayModel" "start" "I", Cond.fieldLink RX9 111 "PenniesAwayModel" "faultAt" "I", Cond.methodLink RX9 108 yX9_next, Cond.instanceMethod yX9_next, Cond.selects RX9 yX9_next yX9_next, Cond.code yX9_next cX9_next 2 none, Cond.fieldLink RX9 84 "PenniesAwayModel" "cursor" "I", Cond.constant RX9 83 (-1000000), Cond.fieldLink RX9 93 "PenniesAwayModel" "token" "I", Cond.fieldLink RX9 102 "PenniesAwayModel" "till" "I", Cond.methodLink RX9 87 yX9_byteAt, Cond.instanceMethod yX9_byteAt, Cond.selects RX9 yX9_byteAt yX9_byteAt, Cond.code yX9_byteAt cX9_byteAt 2 (some .int), Cond.fieldLink RX9 80 "PenniesAwayModel" "length" "I", Cond.fieldLink RX9 28 "PenniesAwayModel" "tape" "[I", Cond.methodLink RX9 96 yX9_isLetter, Cond.static yX9_isLetter]
def wsX9_must_r2 : List Cond := [Cond.code yX9_isLetter cX9_isLetter 1 (some .boolean), Cond.methodLink RX9 99 yX9_isFigure, Cond.static yX9_isFigure, Cond.code yX9_isFigure cX9_isFigure 1 (some .boolean)]
def wsX9_must : List Cond := .code yX9_must cX9_must 2 none :: ((wsX9_must_r1 ++ wsX9_must_r2) ++ wsX90)
def wsX9_name : List Cond := .code yX9_name cX9_name 4 (some .long) :: ([.fieldLink RX9 90 "PenniesAwayModel" "start" "I", .fieldLink RX9 102 "PenniesAwayModel" "till" "I", .fieldLink RX9 93 "PenniesAwayModel" "token" "I", .fieldLink RX9 28 "PenniesAwayModel" "tape" "[I", .fieldLink RX9 105 "PenniesAwayModel" "fault" "I"] ++ wsX90)
def wsX9_figures : List Cond := .code yX9_figures cX9_figures 3 (some .int) :: ([.fieldLink RX9 90 "PenniesAwayModel" "start" "I", .fieldLink RX9 102 "PenniesAwayModel" "till" "I", .fieldLink RX9 93 "PenniesAwayModel" "token" "I", .fieldLink RX9 28 "PenniesAwayModel" "tape" "[I"] ++ wsX90)
def wsX9_number_r1 : List Cond := [Cond.fieldLink RX9 105 "PenniesAwayModel" "fault" "I", Cond.fieldLink RX9 93 "PenniesAwayModel" "token" "I", Cond.methodLink RX9 118 yX9_figures, Cond.instanceMethod yX9_figures, Cond.selects RX9 yX9_figures yX9_figures, Cond.initialized RX9, Cond.code yX9_figures cX9_figures 3 (some .int), Cond.fieldLink RX9 90 "PenniesAwayModel" "start" "I", Cond.fieldLink RX9 102 "PenniesAwayModel" "till" "I", Cond.fieldLink RX9 28 "PenniesAwayModel" "tape" "[I", Cond.methodLink RX9 57 yX9_in, Cond.static yX9_in, Cond.code yX9_in cX9_in 6 (some .boolean), Cond.methodLink RX9 114 yX9_bad, Cond.instanceMethod yX9_bad, Cond.selects RX9 yX9_bad yX9_bad, Cond.code yX9_bad cX9_bad 2 none, Cond.fieldLink RX9 111 "PenniesAwayModel" "faultAt" "I", Cond.methodLink RX9 122 yX9_must, Cond.instanceMethod yX9_must, Cond.selects RX9 yX9_must yX9_must, Cond.code yX9_must cX9_must 2 none, Cond.methodLink RX9 108 yX9_next, Cond.instanceMethod yX9_next]
def wsX9_number_r2 : List Cond := [Cond.selects RX9 yX9_next yX9_next, Cond.code yX9_next cX9_next 2 none, Cond.fieldLink RX9 84 "PenniesAwayModel" "cursor" "I", Cond.constant RX9 83 (-1000000), Cond.methodLink RX9 87 yX9_byteAt, Cond.instanceMethod yX9_byteAt, Cond.selects RX9 yX9_byteAt yX9_byteAt, Cond.code yX9_byteAt cX9_byteAt 2 (some .int), Cond.fieldLink RX9 80 "PenniesAwayModel" "length" "I", Cond.methodLink RX9 96 yX9_isLetter, Cond.static yX9_isLetter, Cond.code yX9_isLetter cX9_isLetter 1 (some .boolean), Cond.methodLink RX9 99 yX9_isFigure, Cond.static yX9_isFigure, Cond.code yX9_isFigure cX9_isFigure 1 (some .boolean)]
def wsX9_number : List Cond := .code yX9_number cX9_number 4 (some .int) :: ((wsX9_number_r1 ++ wsX9_number_r2) ++ wsX90)
def wsX9_kindBy : List Cond := .code yX9_kindBy cX9_kindBy 2 (some .int) :: ([.constantLong RX9 126 (1735355492), .constantLong RX9 128 (126896628458866), .constantLong RX9 130 (109330278933874), .constantLong RX9 132 (112628846781796), .constantLong RX9 134 (7302244), .constant RX9 83 (-1000000)])
def wsX9_mustEnd_r1 : List Cond := [Cond.fieldLink RX9 105 "PenniesAwayModel" "fault" "I", Cond.fieldLink RX9 93 "PenniesAwayModel" "token" "I", Cond.methodLink RX9 122 yX9_must, Cond.instanceMethod yX9_must, Cond.selects RX9 yX9_must yX9_must, Cond.initialized RX9, Cond.code yX9_must cX9_must 2 none, Cond.methodLink RX9 114 yX9_bad, Cond.instanceMethod yX9_bad, Cond.selects RX9 yX9_bad yX9_bad, Cond.code yX9_bad cX9_bad 2 none, Cond.fieldLink RX9 90 "PenniesAwayModel" "start" "I", Cond.fieldLink RX9 111 "PenniesAwayModel" "faultAt" "I", Cond.methodLink RX9 108 yX9_next, Cond.instanceMethod yX9_next, Cond.selects RX9 yX9_next yX9_next, Cond.code yX9_next cX9_next 2 none, Cond.fieldLink RX9 84 "PenniesAwayModel" "cursor" "I", Cond.constant RX9 83 (-1000000), Cond.fieldLink RX9 102 "PenniesAwayModel" "till" "I", Cond.methodLink RX9 87 yX9_byteAt, Cond.instanceMethod yX9_byteAt, Cond.selects RX9 yX9_byteAt yX9_byteAt, Cond.code yX9_byteAt cX9_byteAt 2 (some .int)]
def wsX9_mustEnd_r2 : List Cond := [Cond.fieldLink RX9 80 "PenniesAwayModel" "length" "I", Cond.fieldLink RX9 28 "PenniesAwayModel" "tape" "[I", Cond.methodLink RX9 96 yX9_isLetter, Cond.static yX9_isLetter, Cond.code yX9_isLetter cX9_isLetter 1 (some .boolean), Cond.methodLink RX9 99 yX9_isFigure, Cond.static yX9_isFigure, Cond.code yX9_isFigure cX9_isFigure 1 (some .boolean)]
def wsX9_mustEnd : List Cond := .code yX9_mustEnd cX9_mustEnd 1 none :: ((wsX9_mustEnd_r1 ++ wsX9_mustEnd_r2) ++ wsX90)
def wsX9_begins_r1 : List Cond := [Cond.fieldLink RX9 22 "PenniesAwayModel" "fresh" "[I", Cond.methodLink RX9 114 yX9_bad, Cond.instanceMethod yX9_bad, Cond.selects RX9 yX9_bad yX9_bad, Cond.initialized RX9, Cond.code yX9_bad cX9_bad 2 none, Cond.fieldLink RX9 105 "PenniesAwayModel" "fault" "I", Cond.fieldLink RX9 90 "PenniesAwayModel" "start" "I", Cond.fieldLink RX9 111 "PenniesAwayModel" "faultAt" "I", Cond.methodLink RX9 122 yX9_must, Cond.instanceMethod yX9_must, Cond.selects RX9 yX9_must yX9_must, Cond.code yX9_must cX9_must 2 none, Cond.methodLink RX9 108 yX9_next, Cond.instanceMethod yX9_next, Cond.selects RX9 yX9_next yX9_next, Cond.code yX9_next cX9_next 2 none, Cond.fieldLink RX9 84 "PenniesAwayModel" "cursor" "I", Cond.constant RX9 83 (-1000000), Cond.fieldLink RX9 93 "PenniesAwayModel" "token" "I", Cond.fieldLink RX9 102 "PenniesAwayModel" "till" "I", Cond.methodLink RX9 87 yX9_byteAt, Cond.instanceMethod yX9_byteAt, Cond.selects RX9 yX9_byteAt yX9_byteAt]
def wsX9_begins_r2 : List Cond := [Cond.code yX9_byteAt cX9_byteAt 2 (some .int), Cond.fieldLink RX9 80 "PenniesAwayModel" "length" "I", Cond.fieldLink RX9 28 "PenniesAwayModel" "tape" "[I", Cond.methodLink RX9 96 yX9_isLetter, Cond.static yX9_isLetter, Cond.code yX9_isLetter cX9_isLetter 1 (some .boolean), Cond.methodLink RX9 99 yX9_isFigure, Cond.static yX9_isFigure, Cond.code yX9_isFigure cX9_isFigure 1 (some .boolean)]
def wsX9_begins : List Cond := .code yX9_begins cX9_begins 3 none :: ((wsX9_begins_r1 ++ wsX9_begins_r2) ++ wsX90)
def wsX9_readRoad_r1 : List Cond := [Cond.fieldLink RX9 105 "PenniesAwayModel" "fault" "I", Cond.fieldLink RX9 93 "PenniesAwayModel" "token" "I", Cond.fieldLink RX9 22 "PenniesAwayModel" "fresh" "[I", Cond.methodLink RX9 136 yX9_begins, Cond.instanceMethod yX9_begins, Cond.selects RX9 yX9_begins yX9_begins, Cond.initialized RX9, Cond.code yX9_begins cX9_begins 3 none, Cond.methodLink RX9 114 yX9_bad, Cond.instanceMethod yX9_bad, Cond.selects RX9 yX9_bad yX9_bad, Cond.code yX9_bad cX9_bad 2 none, Cond.fieldLink RX9 90 "PenniesAwayModel" "start" "I", Cond.fieldLink RX9 111 "PenniesAwayModel" "faultAt" "I", Cond.methodLink RX9 122 yX9_must, Cond.instanceMethod yX9_must, Cond.selects RX9 yX9_must yX9_must, Cond.code yX9_must cX9_must 2 none, Cond.methodLink RX9 108 yX9_next, Cond.instanceMethod yX9_next, Cond.selects RX9 yX9_next yX9_next, Cond.code yX9_next cX9_next 2 none, Cond.fieldLink RX9 84 "PenniesAwayModel" "cursor" "I", Cond.constant RX9 83 (-1000000)]
def wsX9_readRoad_r2 : List Cond := [Cond.fieldLink RX9 102 "PenniesAwayModel" "till" "I", Cond.methodLink RX9 87 yX9_byteAt, Cond.instanceMethod yX9_byteAt, Cond.selects RX9 yX9_byteAt yX9_byteAt, Cond.code yX9_byteAt cX9_byteAt 2 (some .int), Cond.fieldLink RX9 80 "PenniesAwayModel" "length" "I", Cond.fieldLink RX9 28 "PenniesAwayModel" "tape" "[I", Cond.methodLink RX9 96 yX9_isLetter, Cond.static yX9_isLetter, Cond.code yX9_isLetter cX9_isLetter 1 (some .boolean), Cond.methodLink RX9 99 yX9_isFigure, Cond.static yX9_isFigure, Cond.code yX9_isFigure cX9_isFigure 1 (some .boolean), Cond.methodLink RX9 140 yX9_number, Cond.instanceMethod yX9_number, Cond.selects RX9 yX9_number yX9_number, Cond.code yX9_number cX9_number 4 (some .int), Cond.methodLink RX9 118 yX9_figures, Cond.instanceMethod yX9_figures, Cond.selects RX9 yX9_figures yX9_figures, Cond.code yX9_figures cX9_figures 3 (some .int), Cond.methodLink RX9 57 yX9_in, Cond.static yX9_in, Cond.code yX9_in cX9_in 6 (some .boolean)]
def wsX9_readRoad_r3 : List Cond := [Cond.methodLink RX9 144 yX9_mustEnd, Cond.instanceMethod yX9_mustEnd, Cond.selects RX9 yX9_mustEnd yX9_mustEnd, Cond.code yX9_mustEnd cX9_mustEnd 1 none]
def wsX9_readRoad : List Cond := .code yX9_readRoad cX9_readRoad 5 none :: ((wsX9_readRoad_r1 ++ (wsX9_readRoad_r2 ++ wsX9_readRoad_r3)) ++ wsX90)
def wsX9_readHolder_r1 : List Cond := [Cond.fieldLink RX9 105 "PenniesAwayModel" "fault" "I", Cond.fieldLink RX9 22 "PenniesAwayModel" "fresh" "[I", Cond.methodLink RX9 136 yX9_begins, Cond.instanceMethod yX9_begins, Cond.selects RX9 yX9_begins yX9_begins, Cond.initialized RX9, Cond.code yX9_begins cX9_begins 3 none, Cond.methodLink RX9 114 yX9_bad, Cond.instanceMethod yX9_bad, Cond.selects RX9 yX9_bad yX9_bad, Cond.code yX9_bad cX9_bad 2 none, Cond.fieldLink RX9 90 "PenniesAwayModel" "start" "I", Cond.fieldLink RX9 111 "PenniesAwayModel" "faultAt" "I", Cond.methodLink RX9 122 yX9_must, Cond.instanceMethod yX9_must, Cond.selects RX9 yX9_must yX9_must, Cond.code yX9_must cX9_must 2 none, Cond.methodLink RX9 108 yX9_next, Cond.instanceMethod yX9_next, Cond.selects RX9 yX9_next yX9_next, Cond.code yX9_next cX9_next 2 none, Cond.fieldLink RX9 84 "PenniesAwayModel" "cursor" "I", Cond.constant RX9 83 (-1000000), Cond.fieldLink RX9 93 "PenniesAwayModel" "token" "I"]
def wsX9_readHolder_r2 : List Cond := [Cond.fieldLink RX9 102 "PenniesAwayModel" "till" "I", Cond.methodLink RX9 87 yX9_byteAt, Cond.instanceMethod yX9_byteAt, Cond.selects RX9 yX9_byteAt yX9_byteAt, Cond.code yX9_byteAt cX9_byteAt 2 (some .int), Cond.fieldLink RX9 80 "PenniesAwayModel" "length" "I", Cond.fieldLink RX9 28 "PenniesAwayModel" "tape" "[I", Cond.methodLink RX9 96 yX9_isLetter, Cond.static yX9_isLetter, Cond.code yX9_isLetter cX9_isLetter 1 (some .boolean), Cond.methodLink RX9 99 yX9_isFigure, Cond.static yX9_isFigure, Cond.code yX9_isFigure cX9_isFigure 1 (some .boolean), Cond.methodLink RX9 140 yX9_number, Cond.instanceMethod yX9_number, Cond.selects RX9 yX9_number yX9_number, Cond.code yX9_number cX9_number 4 (some .int), Cond.methodLink RX9 118 yX9_figures, Cond.instanceMethod yX9_figures, Cond.selects RX9 yX9_figures yX9_figures, Cond.code yX9_figures cX9_figures 3 (some .int), Cond.methodLink RX9 57 yX9_in, Cond.static yX9_in, Cond.code yX9_in cX9_in 6 (some .boolean)]
def wsX9_readHolder_r3 : List Cond := [Cond.methodLink RX9 144 yX9_mustEnd, Cond.instanceMethod yX9_mustEnd, Cond.selects RX9 yX9_mustEnd yX9_mustEnd, Cond.code yX9_mustEnd cX9_mustEnd 1 none]
def wsX9_readHolder : List Cond := .code yX9_readHolder cX9_readHolder 2 none :: ((wsX9_readHolder_r1 ++ (wsX9_readHolder_r2 ++ wsX9_readHolder_r3)) ++ wsX90)
def wsX9_readCoin_r1 : List Cond := [Cond.fieldLink RX9 105 "PenniesAwayModel" "fault" "I", Cond.constant RX9 83 (-1000000), Cond.fieldLink RX9 22 "PenniesAwayModel" "fresh" "[I", Cond.methodLink RX9 136 yX9_begins, Cond.instanceMethod yX9_begins, Cond.selects RX9 yX9_begins yX9_begins, Cond.initialized RX9, Cond.code yX9_begins cX9_begins 3 none, Cond.methodLink RX9 114 yX9_bad, Cond.instanceMethod yX9_bad, Cond.selects RX9 yX9_bad yX9_bad, Cond.code yX9_bad cX9_bad 2 none, Cond.fieldLink RX9 90 "PenniesAwayModel" "start" "I", Cond.fieldLink RX9 111 "PenniesAwayModel" "faultAt" "I", Cond.methodLink RX9 122 yX9_must, Cond.instanceMethod yX9_must, Cond.selects RX9 yX9_must yX9_must, Cond.code yX9_must cX9_must 2 none, Cond.methodLink RX9 108 yX9_next, Cond.instanceMethod yX9_next, Cond.selects RX9 yX9_next yX9_next, Cond.code yX9_next cX9_next 2 none, Cond.fieldLink RX9 84 "PenniesAwayModel" "cursor" "I", Cond.fieldLink RX9 93 "PenniesAwayModel" "token" "I"]
def wsX9_readCoin_r2 : List Cond := [Cond.fieldLink RX9 102 "PenniesAwayModel" "till" "I", Cond.methodLink RX9 87 yX9_byteAt, Cond.instanceMethod yX9_byteAt, Cond.selects RX9 yX9_byteAt yX9_byteAt, Cond.code yX9_byteAt cX9_byteAt 2 (some .int), Cond.fieldLink RX9 80 "PenniesAwayModel" "length" "I", Cond.fieldLink RX9 28 "PenniesAwayModel" "tape" "[I", Cond.methodLink RX9 96 yX9_isLetter, Cond.static yX9_isLetter, Cond.code yX9_isLetter cX9_isLetter 1 (some .boolean), Cond.methodLink RX9 99 yX9_isFigure, Cond.static yX9_isFigure, Cond.code yX9_isFigure cX9_isFigure 1 (some .boolean), Cond.methodLink RX9 147 yX9_name, Cond.instanceMethod yX9_name, Cond.selects RX9 yX9_name yX9_name, Cond.code yX9_name cX9_name 4 (some .long), Cond.methodLink RX9 151 yX9_kindBy, Cond.static yX9_kindBy, Cond.code yX9_kindBy cX9_kindBy 2 (some .int), Cond.constantLong RX9 126 (1735355492), Cond.constantLong RX9 128 (126896628458866), Cond.constantLong RX9 130 (109330278933874), Cond.constantLong RX9 132 (112628846781796)]
def wsX9_readCoin_r3 : List Cond := [Cond.constantLong RX9 134 (7302244), Cond.methodLink RX9 140 yX9_number, Cond.instanceMethod yX9_number, Cond.selects RX9 yX9_number yX9_number, Cond.code yX9_number cX9_number 4 (some .int), Cond.methodLink RX9 118 yX9_figures, Cond.instanceMethod yX9_figures, Cond.selects RX9 yX9_figures yX9_figures, Cond.code yX9_figures cX9_figures 3 (some .int), Cond.methodLink RX9 57 yX9_in, Cond.static yX9_in, Cond.code yX9_in cX9_in 6 (some .boolean), Cond.methodLink RX9 144 yX9_mustEnd, Cond.instanceMethod yX9_mustEnd, Cond.selects RX9 yX9_mustEnd yX9_mustEnd, Cond.code yX9_mustEnd cX9_mustEnd 1 none]
def wsX9_readCoin : List Cond := .code yX9_readCoin cX9_readCoin 5 none :: ((wsX9_readCoin_r1 ++ (wsX9_readCoin_r2 ++ wsX9_readCoin_r3)) ++ wsX90)
def wsX9_layFar : List Cond := .code yX9_layFar cX9_layFar 5 none :: ([.fieldLink RX9 22 "PenniesAwayModel" "fresh" "[I"] ++ wsX90)
def wsX9_realm_r1 : List Cond := [Cond.fieldLink RX9 47 "PenniesAwayModel" "thrown" "I", Cond.fieldLink RX9 22 "PenniesAwayModel" "fresh" "[I", Cond.constantLong RX9 158 (7102839), Cond.constantLong RX9 160 (1919902052), Cond.constantLong RX9 165 (114827769177458), Cond.constantLong RX9 170 (1668245870), Cond.fieldLink RX9 105 "PenniesAwayModel" "fault" "I", Cond.fieldLink RX9 93 "PenniesAwayModel" "token" "I", Cond.fieldLink RX9 175 "PenniesAwayModel" "latest" "I", Cond.constant RX9 178 (-1000100), Cond.fieldLink RX9 111 "PenniesAwayModel" "faultAt" "I", Cond.fieldLink RX9 179 "PenniesAwayModel" "isThere" "Z", Cond.fieldLink RX9 183 "PenniesAwayModel" "acts" "I", Cond.fieldLink RX9 19 "PenniesAwayModel" "realm" "[I", Cond.methodLink RX9 155 yX9_begin, Cond.instanceMethod yX9_begin, Cond.selects RX9 yX9_begin yX9_begin, Cond.initialized RX9, Cond.code yX9_begin cX9_begin 1 none, Cond.fieldLink RX9 74 "PenniesAwayModel" "taped" "I", Cond.fieldLink RX9 80 "PenniesAwayModel" "length" "I", Cond.fieldLink RX9 84 "PenniesAwayModel" "cursor" "I", Cond.methodLink RX9 108 yX9_next, Cond.instanceMethod yX9_next]
def wsX9_realm_r2 : List Cond := [Cond.selects RX9 yX9_next yX9_next, Cond.code yX9_next cX9_next 2 none, Cond.fieldLink RX9 90 "PenniesAwayModel" "start" "I", Cond.constant RX9 83 (-1000000), Cond.fieldLink RX9 102 "PenniesAwayModel" "till" "I", Cond.methodLink RX9 87 yX9_byteAt, Cond.instanceMethod yX9_byteAt, Cond.selects RX9 yX9_byteAt yX9_byteAt, Cond.code yX9_byteAt cX9_byteAt 2 (some .int), Cond.fieldLink RX9 28 "PenniesAwayModel" "tape" "[I", Cond.methodLink RX9 96 yX9_isLetter, Cond.static yX9_isLetter, Cond.code yX9_isLetter cX9_isLetter 1 (some .boolean), Cond.methodLink RX9 99 yX9_isFigure, Cond.static yX9_isFigure, Cond.code yX9_isFigure cX9_isFigure 1 (some .boolean), Cond.methodLink RX9 147 yX9_name, Cond.instanceMethod yX9_name, Cond.selects RX9 yX9_name yX9_name, Cond.code yX9_name cX9_name 4 (some .long), Cond.methodLink RX9 122 yX9_must, Cond.instanceMethod yX9_must, Cond.selects RX9 yX9_must yX9_must, Cond.code yX9_must cX9_must 2 none]
def wsX9_realm_r3 : List Cond := [Cond.methodLink RX9 114 yX9_bad, Cond.instanceMethod yX9_bad, Cond.selects RX9 yX9_bad yX9_bad, Cond.code yX9_bad cX9_bad 2 none, Cond.methodLink RX9 140 yX9_number, Cond.instanceMethod yX9_number, Cond.selects RX9 yX9_number yX9_number, Cond.code yX9_number cX9_number 4 (some .int), Cond.methodLink RX9 118 yX9_figures, Cond.instanceMethod yX9_figures, Cond.selects RX9 yX9_figures yX9_figures, Cond.code yX9_figures cX9_figures 3 (some .int), Cond.methodLink RX9 57 yX9_in, Cond.static yX9_in, Cond.code yX9_in cX9_in 6 (some .boolean), Cond.methodLink RX9 144 yX9_mustEnd, Cond.instanceMethod yX9_mustEnd, Cond.selects RX9 yX9_mustEnd yX9_mustEnd, Cond.code yX9_mustEnd cX9_mustEnd 1 none, Cond.methodLink RX9 162 yX9_readRoad, Cond.instanceMethod yX9_readRoad, Cond.selects RX9 yX9_readRoad yX9_readRoad, Cond.code yX9_readRoad cX9_readRoad 5 none, Cond.methodLink RX9 136 yX9_begins]
def wsX9_realm_r4 : List Cond := [Cond.instanceMethod yX9_begins, Cond.selects RX9 yX9_begins yX9_begins, Cond.code yX9_begins cX9_begins 3 none, Cond.methodLink RX9 167 yX9_readHolder, Cond.instanceMethod yX9_readHolder, Cond.selects RX9 yX9_readHolder yX9_readHolder, Cond.code yX9_readHolder cX9_readHolder 2 none, Cond.methodLink RX9 172 yX9_readCoin, Cond.instanceMethod yX9_readCoin, Cond.selects RX9 yX9_readCoin yX9_readCoin, Cond.code yX9_readCoin cX9_readCoin 5 none, Cond.methodLink RX9 151 yX9_kindBy, Cond.static yX9_kindBy, Cond.code yX9_kindBy cX9_kindBy 2 (some .int), Cond.constantLong RX9 126 (1735355492), Cond.constantLong RX9 128 (126896628458866), Cond.constantLong RX9 130 (109330278933874), Cond.constantLong RX9 132 (112628846781796), Cond.constantLong RX9 134 (7302244), Cond.methodLink RX9 186 yX9_layFar, Cond.instanceMethod yX9_layFar, Cond.selects RX9 yX9_layFar yX9_layFar, Cond.code yX9_layFar cX9_layFar 5 none]
def wsX9_realm : List Cond := .code yX9_realm cX9_realm 2 (some .int) :: ((wsX9_realm_r1 ++ (wsX9_realm_r2 ++ (wsX9_realm_r3 ++ wsX9_realm_r4))) ++ wsX90)
def wsX9_fault : List Cond := .code yX9_fault cX9_fault 1 (some .int) :: ([.fieldLink RX9 47 "PenniesAwayModel" "thrown" "I", .fieldLink RX9 175 "PenniesAwayModel" "latest" "I"] ++ wsX90)
def wsX9_isHolder : List Cond := .code yX9_isHolder cX9_isHolder 2 (some .boolean) :: ([.fieldLink RX9 19 "PenniesAwayModel" "realm" "[I", .methodLink RX9 57 yX9_in, .static yX9_in, .initialized RX9, .code yX9_in cX9_in 6 (some .boolean)] ++ wsX90)
def wsX9_isCoin : List Cond := .code yX9_isCoin cX9_isCoin 2 (some .boolean) :: ([.fieldLink RX9 19 "PenniesAwayModel" "realm" "[I", .methodLink RX9 57 yX9_in, .static yX9_in, .initialized RX9, .code yX9_in cX9_in 6 (some .boolean)] ++ wsX90)
def wsX9_of : List Cond := .code yX9_of cX9_of 3 (some .int) :: ([.fieldLink RX9 19 "PenniesAwayModel" "realm" "[I"] ++ wsX90)
def wsX9_becomes : List Cond := .code yX9_becomes cX9_becomes 4 none :: ([.fieldLink RX9 19 "PenniesAwayModel" "realm" "[I"] ++ wsX90)
def wsX9_townOf : List Cond := .code yX9_townOf cX9_townOf 2 (some .int) :: ([.fieldLink RX9 19 "PenniesAwayModel" "realm" "[I", .methodLink RX9 189 yX9_of, .instanceMethod yX9_of, .selects RX9 yX9_of yX9_of, .initialized RX9, .code yX9_of cX9_of 3 (some .int)] ++ wsX90)
def wsX9_farOf : List Cond := .code yX9_farOf cX9_farOf 3 (some .int) :: ([.fieldLink RX9 19 "PenniesAwayModel" "realm" "[I"] ++ wsX90)
def wsX9_spanOf : List Cond := .code yX9_spanOf cX9_spanOf 3 (some .int) :: ([.fieldLink RX9 19 "PenniesAwayModel" "realm" "[I", .methodLink RX9 189 yX9_of, .instanceMethod yX9_of, .selects RX9 yX9_of yX9_of, .initialized RX9, .code yX9_of cX9_of 3 (some .int)] ++ wsX90)
def wsX9_slackBy : List Cond := .code yX9_slackBy cX9_slackBy 4 (some .int) :: ([.constant RX9 83 (-1000000), .methodLink RX9 189 yX9_of, .instanceMethod yX9_of, .selects RX9 yX9_of yX9_of, .initialized RX9, .code yX9_of cX9_of 3 (some .int), .fieldLink RX9 19 "PenniesAwayModel" "realm" "[I", .methodLink RX9 192 yX9_spanOf, .instanceMethod yX9_spanOf, .selects RX9 yX9_spanOf yX9_spanOf, .code yX9_spanOf cX9_spanOf 3 (some .int)] ++ wsX90)
def wsX9_slackOf : List Cond := .code yX9_slackOf cX9_slackOf 2 (some .int) :: ([.methodLink RX9 195 yX9_townOf, .instanceMethod yX9_townOf, .selects RX9 yX9_townOf yX9_townOf, .initialized RX9, .code yX9_townOf cX9_townOf 2 (some .int), .fieldLink RX9 19 "PenniesAwayModel" "realm" "[I", .methodLink RX9 189 yX9_of, .instanceMethod yX9_of, .selects RX9 yX9_of yX9_of, .code yX9_of cX9_of 3 (some .int), .methodLink RX9 198 yX9_farOf, .instanceMethod yX9_farOf, .selects RX9 yX9_farOf yX9_farOf, .code yX9_farOf cX9_farOf 3 (some .int), .methodLink RX9 201 yX9_slackBy, .instanceMethod yX9_slackBy, .selects RX9 yX9_slackBy yX9_slackBy, .code yX9_slackBy cX9_slackBy 4 (some .int), .constant RX9 83 (-1000000), .methodLink RX9 192 yX9_spanOf, .instanceMethod yX9_spanOf, .selects RX9 yX9_spanOf yX9_spanOf, .code yX9_spanOf cX9_spanOf 3 (some .int)] ++ wsX90)
def wsX9_keep : List Cond := .code yX9_keep cX9_keep 2 none :: ([.fieldLink RX9 183 "PenniesAwayModel" "acts" "I", .fieldLink RX9 25 "PenniesAwayModel" "was" "[I", .fieldLink RX9 19 "PenniesAwayModel" "realm" "[I"] ++ wsX90)
def wsX9_pass_r1 : List Cond := [Cond.fieldLink RX9 47 "PenniesAwayModel" "thrown" "I", Cond.constant RX9 67 (-1000001), Cond.fieldLink RX9 19 "PenniesAwayModel" "realm" "[I", Cond.constant RX9 210 (-1000002), Cond.methodLink RX9 204 yX9_isCoin, Cond.instanceMethod yX9_isCoin, Cond.selects RX9 yX9_isCoin yX9_isCoin, Cond.initialized RX9, Cond.code yX9_isCoin cX9_isCoin 2 (some .boolean), Cond.methodLink RX9 57 yX9_in, Cond.static yX9_in, Cond.code yX9_in cX9_in 6 (some .boolean), Cond.methodLink RX9 207 yX9_isHolder, Cond.instanceMethod yX9_isHolder, Cond.selects RX9 yX9_isHolder yX9_isHolder, Cond.code yX9_isHolder cX9_isHolder 2 (some .boolean), Cond.methodLink RX9 189 yX9_of, Cond.instanceMethod yX9_of, Cond.selects RX9 yX9_of yX9_of, Cond.code yX9_of cX9_of 3 (some .int), Cond.methodLink RX9 195 yX9_townOf, Cond.instanceMethod yX9_townOf, Cond.selects RX9 yX9_townOf yX9_townOf, Cond.code yX9_townOf cX9_townOf 2 (some .int)]
def wsX9_pass_r2 : List Cond := [Cond.methodLink RX9 211 yX9_keep, Cond.instanceMethod yX9_keep, Cond.selects RX9 yX9_keep yX9_keep, Cond.code yX9_keep cX9_keep 2 none, Cond.fieldLink RX9 183 "PenniesAwayModel" "acts" "I", Cond.fieldLink RX9 25 "PenniesAwayModel" "was" "[I", Cond.methodLink RX9 214 yX9_becomes, Cond.instanceMethod yX9_becomes, Cond.selects RX9 yX9_becomes yX9_becomes, Cond.code yX9_becomes cX9_becomes 4 none]
def wsX9_pass : List Cond := .code yX9_pass cX9_pass 4 (some .int) :: ((wsX9_pass_r1 ++ wsX9_pass_r2) ++ wsX90)
def wsX9_maySend : List Cond := .code yX9_maySend cX9_maySend 2 (some .boolean) :: ([.methodLink RX9 189 yX9_of, .instanceMethod yX9_of, .selects RX9 yX9_of yX9_of, .initialized RX9, .code yX9_of cX9_of 3 (some .int), .fieldLink RX9 19 "PenniesAwayModel" "realm" "[I", .methodLink RX9 195 yX9_townOf, .instanceMethod yX9_townOf, .selects RX9 yX9_townOf yX9_townOf, .code yX9_townOf cX9_townOf 2 (some .int), .methodLink RX9 198 yX9_farOf, .instanceMethod yX9_farOf, .selects RX9 yX9_farOf yX9_farOf, .code yX9_farOf cX9_farOf 3 (some .int)] ++ wsX90)
def wsX9_sends : List Cond := .code yX9_sends cX9_sends 2 none :: ([.methodLink RX9 211 yX9_keep, .instanceMethod yX9_keep, .selects RX9 yX9_keep yX9_keep, .initialized RX9, .code yX9_keep cX9_keep 2 none, .fieldLink RX9 183 "PenniesAwayModel" "acts" "I", .fieldLink RX9 25 "PenniesAwayModel" "was" "[I", .fieldLink RX9 19 "PenniesAwayModel" "realm" "[I", .methodLink RX9 214 yX9_becomes, .instanceMethod yX9_becomes, .selects RX9 yX9_becomes yX9_becomes, .code yX9_becomes cX9_becomes 4 none, .methodLink RX9 195 yX9_townOf, .instanceMethod yX9_townOf, .selects RX9 yX9_townOf yX9_townOf, .code yX9_townOf cX9_townOf 2 (some .int), .methodLink RX9 189 yX9_of, .instanceMethod yX9_of, .selects RX9 yX9_of yX9_of, .code yX9_of cX9_of 3 (some .int), .methodLink RX9 198 yX9_farOf, .instanceMethod yX9_farOf, .selects RX9 yX9_farOf yX9_farOf, .code yX9_farOf cX9_farOf 3 (some .int)] ++ wsX90)
def wsX9_send_r1 : List Cond := [Cond.fieldLink RX9 47 "PenniesAwayModel" "thrown" "I", Cond.constant RX9 67 (-1000001), Cond.constant RX9 210 (-1000002), Cond.methodLink RX9 204 yX9_isCoin, Cond.instanceMethod yX9_isCoin, Cond.selects RX9 yX9_isCoin yX9_isCoin, Cond.initialized RX9, Cond.code yX9_isCoin cX9_isCoin 2 (some .boolean), Cond.fieldLink RX9 19 "PenniesAwayModel" "realm" "[I", Cond.methodLink RX9 57 yX9_in, Cond.static yX9_in, Cond.code yX9_in cX9_in 6 (some .boolean), Cond.methodLink RX9 218 yX9_maySend, Cond.instanceMethod yX9_maySend, Cond.selects RX9 yX9_maySend yX9_maySend, Cond.code yX9_maySend cX9_maySend 2 (some .boolean), Cond.methodLink RX9 189 yX9_of, Cond.instanceMethod yX9_of, Cond.selects RX9 yX9_of yX9_of, Cond.code yX9_of cX9_of 3 (some .int), Cond.methodLink RX9 195 yX9_townOf, Cond.instanceMethod yX9_townOf, Cond.selects RX9 yX9_townOf yX9_townOf, Cond.code yX9_townOf cX9_townOf 2 (some .int)]
def wsX9_send_r2 : List Cond := [Cond.methodLink RX9 198 yX9_farOf, Cond.instanceMethod yX9_farOf, Cond.selects RX9 yX9_farOf yX9_farOf, Cond.code yX9_farOf cX9_farOf 3 (some .int), Cond.methodLink RX9 221 yX9_sends, Cond.instanceMethod yX9_sends, Cond.selects RX9 yX9_sends yX9_sends, Cond.code yX9_sends cX9_sends 2 none, Cond.methodLink RX9 211 yX9_keep, Cond.instanceMethod yX9_keep, Cond.selects RX9 yX9_keep yX9_keep, Cond.code yX9_keep cX9_keep 2 none, Cond.fieldLink RX9 183 "PenniesAwayModel" "acts" "I", Cond.fieldLink RX9 25 "PenniesAwayModel" "was" "[I", Cond.methodLink RX9 214 yX9_becomes, Cond.instanceMethod yX9_becomes, Cond.selects RX9 yX9_becomes yX9_becomes, Cond.code yX9_becomes cX9_becomes 4 none]
def wsX9_send : List Cond := .code yX9_send cX9_send 2 (some .int) :: ((wsX9_send_r1 ++ wsX9_send_r2) ++ wsX90)
def wsX9_sendAll_r1 : List Cond := [Cond.fieldLink RX9 47 "PenniesAwayModel" "thrown" "I", Cond.fieldLink RX9 179 "PenniesAwayModel" "isThere" "Z", Cond.constant RX9 210 (-1000002), Cond.constantLong RX9 224 (12), Cond.constant RX9 67 (-1000001), Cond.fieldLink RX9 7 "PenniesAwayModel" "lane" "[I", Cond.fieldLink RX9 13 "PenniesAwayModel" "many" "[I", Cond.fieldLink RX9 16 "PenniesAwayModel" "item" "[I", Cond.fieldLink RX9 51 "PenniesAwayModel" "status" "I", Cond.methodLink RX9 61 yX9_isRow, Cond.static yX9_isRow, Cond.initialized RX9, Cond.code yX9_isRow cX9_isRow 1 (some .boolean), Cond.constantLong RX9 55 (7), Cond.methodLink RX9 57 yX9_in, Cond.static yX9_in, Cond.code yX9_in cX9_in 6 (some .boolean), Cond.methodLink RX9 68 yX9_finding, Cond.instanceMethod yX9_finding, Cond.selects RX9 yX9_finding yX9_finding, Cond.code yX9_finding cX9_finding 2 (some .int), Cond.constant RX9 54 (-1000010), Cond.methodLink RX9 204 yX9_isCoin, Cond.instanceMethod yX9_isCoin]
def wsX9_sendAll_r2 : List Cond := [Cond.selects RX9 yX9_isCoin yX9_isCoin, Cond.code yX9_isCoin cX9_isCoin 2 (some .boolean), Cond.fieldLink RX9 19 "PenniesAwayModel" "realm" "[I", Cond.methodLink RX9 218 yX9_maySend, Cond.instanceMethod yX9_maySend, Cond.selects RX9 yX9_maySend yX9_maySend, Cond.code yX9_maySend cX9_maySend 2 (some .boolean), Cond.methodLink RX9 189 yX9_of, Cond.instanceMethod yX9_of, Cond.selects RX9 yX9_of yX9_of, Cond.code yX9_of cX9_of 3 (some .int), Cond.methodLink RX9 195 yX9_townOf, Cond.instanceMethod yX9_townOf, Cond.selects RX9 yX9_townOf yX9_townOf, Cond.code yX9_townOf cX9_townOf 2 (some .int), Cond.methodLink RX9 198 yX9_farOf, Cond.instanceMethod yX9_farOf, Cond.selects RX9 yX9_farOf yX9_farOf, Cond.code yX9_farOf cX9_farOf 3 (some .int), Cond.methodLink RX9 221 yX9_sends, Cond.instanceMethod yX9_sends, Cond.selects RX9 yX9_sends yX9_sends, Cond.code yX9_sends cX9_sends 2 none, Cond.methodLink RX9 211 yX9_keep]
def wsX9_sendAll_r3 : List Cond := [Cond.instanceMethod yX9_keep, Cond.selects RX9 yX9_keep yX9_keep, Cond.code yX9_keep cX9_keep 2 none, Cond.fieldLink RX9 183 "PenniesAwayModel" "acts" "I", Cond.fieldLink RX9 25 "PenniesAwayModel" "was" "[I", Cond.methodLink RX9 214 yX9_becomes, Cond.instanceMethod yX9_becomes, Cond.selects RX9 yX9_becomes yX9_becomes, Cond.code yX9_becomes cX9_becomes 4 none]
def wsX9_sendAll : List Cond := .code yX9_sendAll cX9_sendAll 6 (some .int) :: ((wsX9_sendAll_r1 ++ (wsX9_sendAll_r2 ++ wsX9_sendAll_r3)) ++ wsX90)
def wsX9_arrives : List Cond := .code yX9_arrives cX9_arrives 2 none :: ([.methodLink RX9 189 yX9_of, .instanceMethod yX9_of, .selects RX9 yX9_of yX9_of, .initialized RX9, .code yX9_of cX9_of 3 (some .int), .fieldLink RX9 19 "PenniesAwayModel" "realm" "[I", .methodLink RX9 214 yX9_becomes, .instanceMethod yX9_becomes, .selects RX9 yX9_becomes yX9_becomes, .code yX9_becomes cX9_becomes 4 none, .methodLink RX9 195 yX9_townOf, .instanceMethod yX9_townOf, .selects RX9 yX9_townOf yX9_townOf, .code yX9_townOf cX9_townOf 2 (some .int), .methodLink RX9 198 yX9_farOf, .instanceMethod yX9_farOf, .selects RX9 yX9_farOf yX9_farOf, .code yX9_farOf cX9_farOf 3 (some .int)] ++ wsX90)
def wsX9_goesOn : List Cond := .code yX9_goesOn cX9_goesOn 2 none :: ([.methodLink RX9 189 yX9_of, .instanceMethod yX9_of, .selects RX9 yX9_of yX9_of, .initialized RX9, .code yX9_of cX9_of 3 (some .int), .fieldLink RX9 19 "PenniesAwayModel" "realm" "[I", .methodLink RX9 214 yX9_becomes, .instanceMethod yX9_becomes, .selects RX9 yX9_becomes yX9_becomes, .code yX9_becomes cX9_becomes 4 none, .methodLink RX9 226 yX9_arrives, .instanceMethod yX9_arrives, .selects RX9 yX9_arrives yX9_arrives, .code yX9_arrives cX9_arrives 2 none, .methodLink RX9 195 yX9_townOf, .instanceMethod yX9_townOf, .selects RX9 yX9_townOf yX9_townOf, .code yX9_townOf cX9_townOf 2 (some .int), .methodLink RX9 198 yX9_farOf, .instanceMethod yX9_farOf, .selects RX9 yX9_farOf yX9_farOf, .code yX9_farOf cX9_farOf 3 (some .int)] ++ wsX90)
def wsX9_days_r1 : List Cond := [Cond.fieldLink RX9 47 "PenniesAwayModel" "thrown" "I", Cond.fieldLink RX9 179 "PenniesAwayModel" "isThere" "Z", Cond.constant RX9 210 (-1000002), Cond.constantLong RX9 229 (99), Cond.constant RX9 67 (-1000001), Cond.fieldLink RX9 19 "PenniesAwayModel" "realm" "[I", Cond.constant RX9 77 (-1000003), Cond.methodLink RX9 57 yX9_in, Cond.static yX9_in, Cond.initialized RX9, Cond.code yX9_in cX9_in 6 (some .boolean), Cond.methodLink RX9 211 yX9_keep, Cond.instanceMethod yX9_keep, Cond.selects RX9 yX9_keep yX9_keep, Cond.code yX9_keep cX9_keep 2 none, Cond.fieldLink RX9 183 "PenniesAwayModel" "acts" "I", Cond.fieldLink RX9 25 "PenniesAwayModel" "was" "[I", Cond.methodLink RX9 231 yX9_goesOn, Cond.instanceMethod yX9_goesOn, Cond.selects RX9 yX9_goesOn yX9_goesOn, Cond.code yX9_goesOn cX9_goesOn 2 none, Cond.methodLink RX9 189 yX9_of, Cond.instanceMethod yX9_of, Cond.selects RX9 yX9_of yX9_of]
def wsX9_days_r2 : List Cond := [Cond.code yX9_of cX9_of 3 (some .int), Cond.methodLink RX9 214 yX9_becomes, Cond.instanceMethod yX9_becomes, Cond.selects RX9 yX9_becomes yX9_becomes, Cond.code yX9_becomes cX9_becomes 4 none, Cond.methodLink RX9 226 yX9_arrives, Cond.instanceMethod yX9_arrives, Cond.selects RX9 yX9_arrives yX9_arrives, Cond.code yX9_arrives cX9_arrives 2 none, Cond.methodLink RX9 195 yX9_townOf, Cond.instanceMethod yX9_townOf, Cond.selects RX9 yX9_townOf yX9_townOf, Cond.code yX9_townOf cX9_townOf 2 (some .int), Cond.methodLink RX9 198 yX9_farOf, Cond.instanceMethod yX9_farOf, Cond.selects RX9 yX9_farOf yX9_farOf, Cond.code yX9_farOf cX9_farOf 3 (some .int), Cond.methodLink RX9 192 yX9_spanOf, Cond.instanceMethod yX9_spanOf, Cond.selects RX9 yX9_spanOf yX9_spanOf, Cond.code yX9_spanOf cX9_spanOf 3 (some .int)]
def wsX9_days : List Cond := .code yX9_days cX9_days 5 (some .int) :: ((wsX9_days_r1 ++ wsX9_days_r2) ++ wsX90)
def wsX9_flood_r1 : List Cond := [Cond.fieldLink RX9 47 "PenniesAwayModel" "thrown" "I", Cond.fieldLink RX9 179 "PenniesAwayModel" "isThere" "Z", Cond.constant RX9 210 (-1000002), Cond.constantLong RX9 234 (999999), Cond.constant RX9 67 (-1000001), Cond.fieldLink RX9 19 "PenniesAwayModel" "realm" "[I", Cond.constantLong RX9 236 (16807), Cond.constantLong RX9 238 (2147483647), Cond.constantLong RX9 240 (10), Cond.methodLink RX9 57 yX9_in, Cond.static yX9_in, Cond.initialized RX9, Cond.code yX9_in cX9_in 6 (some .boolean), Cond.methodLink RX9 211 yX9_keep, Cond.instanceMethod yX9_keep, Cond.selects RX9 yX9_keep yX9_keep, Cond.code yX9_keep cX9_keep 2 none, Cond.fieldLink RX9 183 "PenniesAwayModel" "acts" "I", Cond.fieldLink RX9 25 "PenniesAwayModel" "was" "[I", Cond.methodLink RX9 189 yX9_of, Cond.instanceMethod yX9_of, Cond.selects RX9 yX9_of yX9_of, Cond.code yX9_of cX9_of 3 (some .int), Cond.methodLink RX9 214 yX9_becomes]
def wsX9_flood_r2 : List Cond := [Cond.instanceMethod yX9_becomes, Cond.selects RX9 yX9_becomes yX9_becomes, Cond.code yX9_becomes cX9_becomes 4 none]
def wsX9_flood : List Cond := .code yX9_flood cX9_flood 7 (some .int) :: ((wsX9_flood_r1 ++ wsX9_flood_r2) ++ wsX90)
def wsX9_undo : List Cond := .code yX9_undo cX9_undo 2 (some .int) :: ([.fieldLink RX9 47 "PenniesAwayModel" "thrown" "I", .fieldLink RX9 183 "PenniesAwayModel" "acts" "I", .constant RX9 210 (-1000002), .fieldLink RX9 19 "PenniesAwayModel" "realm" "[I", .fieldLink RX9 25 "PenniesAwayModel" "was" "[I"] ++ wsX90)
def wsX9_worthOf_r1 : List Cond := [Cond.methodLink RX9 242 yX9_slackOf, Cond.instanceMethod yX9_slackOf, Cond.selects RX9 yX9_slackOf yX9_slackOf, Cond.initialized RX9, Cond.code yX9_slackOf cX9_slackOf 2 (some .int), Cond.methodLink RX9 195 yX9_townOf, Cond.instanceMethod yX9_townOf, Cond.selects RX9 yX9_townOf yX9_townOf, Cond.code yX9_townOf cX9_townOf 2 (some .int), Cond.fieldLink RX9 19 "PenniesAwayModel" "realm" "[I", Cond.methodLink RX9 189 yX9_of, Cond.instanceMethod yX9_of, Cond.selects RX9 yX9_of yX9_of, Cond.code yX9_of cX9_of 3 (some .int), Cond.methodLink RX9 198 yX9_farOf, Cond.instanceMethod yX9_farOf, Cond.selects RX9 yX9_farOf yX9_farOf, Cond.code yX9_farOf cX9_farOf 3 (some .int), Cond.methodLink RX9 201 yX9_slackBy, Cond.instanceMethod yX9_slackBy, Cond.selects RX9 yX9_slackBy yX9_slackBy, Cond.code yX9_slackBy cX9_slackBy 4 (some .int), Cond.constant RX9 83 (-1000000), Cond.methodLink RX9 192 yX9_spanOf]
def wsX9_worthOf_r2 : List Cond := [Cond.instanceMethod yX9_spanOf, Cond.selects RX9 yX9_spanOf yX9_spanOf, Cond.code yX9_spanOf cX9_spanOf 3 (some .int)]
def wsX9_worthOf : List Cond := .code yX9_worthOf cX9_worthOf 3 (some .int) :: ((wsX9_worthOf_r1 ++ wsX9_worthOf_r2) ++ wsX90)
def wsX9_coin_r1 : List Cond := [Cond.fieldLink RX9 47 "PenniesAwayModel" "thrown" "I", Cond.constantLong RX9 55 (7), Cond.constant RX9 67 (-1000001), Cond.methodLink RX9 204 yX9_isCoin, Cond.instanceMethod yX9_isCoin, Cond.selects RX9 yX9_isCoin yX9_isCoin, Cond.initialized RX9, Cond.code yX9_isCoin cX9_isCoin 2 (some .boolean), Cond.fieldLink RX9 19 "PenniesAwayModel" "realm" "[I", Cond.methodLink RX9 57 yX9_in, Cond.static yX9_in, Cond.code yX9_in cX9_in 6 (some .boolean), Cond.methodLink RX9 192 yX9_spanOf, Cond.instanceMethod yX9_spanOf, Cond.selects RX9 yX9_spanOf yX9_spanOf, Cond.code yX9_spanOf cX9_spanOf 3 (some .int), Cond.methodLink RX9 189 yX9_of, Cond.instanceMethod yX9_of, Cond.selects RX9 yX9_of yX9_of, Cond.code yX9_of cX9_of 3 (some .int), Cond.methodLink RX9 242 yX9_slackOf, Cond.instanceMethod yX9_slackOf, Cond.selects RX9 yX9_slackOf yX9_slackOf, Cond.code yX9_slackOf cX9_slackOf 2 (some .int)]
def wsX9_coin_r2 : List Cond := [Cond.methodLink RX9 195 yX9_townOf, Cond.instanceMethod yX9_townOf, Cond.selects RX9 yX9_townOf yX9_townOf, Cond.code yX9_townOf cX9_townOf 2 (some .int), Cond.methodLink RX9 198 yX9_farOf, Cond.instanceMethod yX9_farOf, Cond.selects RX9 yX9_farOf yX9_farOf, Cond.code yX9_farOf cX9_farOf 3 (some .int), Cond.methodLink RX9 201 yX9_slackBy, Cond.instanceMethod yX9_slackBy, Cond.selects RX9 yX9_slackBy yX9_slackBy, Cond.code yX9_slackBy cX9_slackBy 4 (some .int), Cond.constant RX9 83 (-1000000), Cond.methodLink RX9 245 yX9_worthOf, Cond.instanceMethod yX9_worthOf, Cond.selects RX9 yX9_worthOf yX9_worthOf, Cond.code yX9_worthOf cX9_worthOf 3 (some .int)]
def wsX9_coin : List Cond := .code yX9_coin cX9_coin 3 (some .int) :: ((wsX9_coin_r1 ++ wsX9_coin_r2) ++ wsX90)
def wsX9_far : List Cond := .code yX9_far cX9_far 3 (some .int) :: ([.fieldLink RX9 47 "PenniesAwayModel" "thrown" "I", .fieldLink RX9 179 "PenniesAwayModel" "isThere" "Z", .constant RX9 210 (-1000002), .constantLong RX9 55 (7), .constant RX9 67 (-1000001), .constant RX9 83 (-1000000), .methodLink RX9 57 yX9_in, .static yX9_in, .initialized RX9, .code yX9_in cX9_in 6 (some .boolean), .methodLink RX9 198 yX9_farOf, .instanceMethod yX9_farOf, .selects RX9 yX9_farOf yX9_farOf, .code yX9_farOf cX9_farOf 3 (some .int), .fieldLink RX9 19 "PenniesAwayModel" "realm" "[I"] ++ wsX90)
def wsX9_late_r1 : List Cond := [Cond.fieldLink RX9 47 "PenniesAwayModel" "thrown" "I", Cond.fieldLink RX9 179 "PenniesAwayModel" "isThere" "Z", Cond.constant RX9 210 (-1000002), Cond.fieldLink RX9 19 "PenniesAwayModel" "realm" "[I", Cond.constant RX9 83 (-1000000), Cond.methodLink RX9 242 yX9_slackOf, Cond.instanceMethod yX9_slackOf, Cond.selects RX9 yX9_slackOf yX9_slackOf, Cond.initialized RX9, Cond.code yX9_slackOf cX9_slackOf 2 (some .int), Cond.methodLink RX9 195 yX9_townOf, Cond.instanceMethod yX9_townOf, Cond.selects RX9 yX9_townOf yX9_townOf, Cond.code yX9_townOf cX9_townOf 2 (some .int), Cond.methodLink RX9 189 yX9_of, Cond.instanceMethod yX9_of, Cond.selects RX9 yX9_of yX9_of, Cond.code yX9_of cX9_of 3 (some .int), Cond.methodLink RX9 198 yX9_farOf, Cond.instanceMethod yX9_farOf, Cond.selects RX9 yX9_farOf yX9_farOf, Cond.code yX9_farOf cX9_farOf 3 (some .int), Cond.methodLink RX9 201 yX9_slackBy, Cond.instanceMethod yX9_slackBy]
def wsX9_late_r2 : List Cond := [Cond.selects RX9 yX9_slackBy yX9_slackBy, Cond.code yX9_slackBy cX9_slackBy 4 (some .int), Cond.methodLink RX9 192 yX9_spanOf, Cond.instanceMethod yX9_spanOf, Cond.selects RX9 yX9_spanOf yX9_spanOf, Cond.code yX9_spanOf cX9_spanOf 3 (some .int)]
def wsX9_late : List Cond := .code yX9_late cX9_late 4 (some .int) :: ((wsX9_late_r1 ++ wsX9_late_r2) ++ wsX90)
def wsX9_canBeSaved_r1 : List Cond := [Cond.methodLink RX9 242 yX9_slackOf, Cond.instanceMethod yX9_slackOf, Cond.selects RX9 yX9_slackOf yX9_slackOf, Cond.initialized RX9, Cond.code yX9_slackOf cX9_slackOf 2 (some .int), Cond.methodLink RX9 195 yX9_townOf, Cond.instanceMethod yX9_townOf, Cond.selects RX9 yX9_townOf yX9_townOf, Cond.code yX9_townOf cX9_townOf 2 (some .int), Cond.fieldLink RX9 19 "PenniesAwayModel" "realm" "[I", Cond.methodLink RX9 189 yX9_of, Cond.instanceMethod yX9_of, Cond.selects RX9 yX9_of yX9_of, Cond.code yX9_of cX9_of 3 (some .int), Cond.methodLink RX9 198 yX9_farOf, Cond.instanceMethod yX9_farOf, Cond.selects RX9 yX9_farOf yX9_farOf, Cond.code yX9_farOf cX9_farOf 3 (some .int), Cond.methodLink RX9 201 yX9_slackBy, Cond.instanceMethod yX9_slackBy, Cond.selects RX9 yX9_slackBy yX9_slackBy, Cond.code yX9_slackBy cX9_slackBy 4 (some .int), Cond.constant RX9 83 (-1000000), Cond.methodLink RX9 192 yX9_spanOf]
def wsX9_canBeSaved_r2 : List Cond := [Cond.instanceMethod yX9_spanOf, Cond.selects RX9 yX9_spanOf yX9_spanOf, Cond.code yX9_spanOf cX9_spanOf 3 (some .int)]
def wsX9_canBeSaved : List Cond := .code yX9_canBeSaved cX9_canBeSaved 3 (some .boolean) :: ((wsX9_canBeSaved_r1 ++ wsX9_canBeSaved_r2) ++ wsX90)
def wsX9_mustGo_r1 : List Cond := [Cond.fieldLink RX9 47 "PenniesAwayModel" "thrown" "I", Cond.fieldLink RX9 179 "PenniesAwayModel" "isThere" "Z", Cond.constant RX9 210 (-1000002), Cond.constantLong RX9 248 (400), Cond.constant RX9 67 (-1000001), Cond.fieldLink RX9 19 "PenniesAwayModel" "realm" "[I", Cond.methodLink RX9 57 yX9_in, Cond.static yX9_in, Cond.initialized RX9, Cond.code yX9_in cX9_in 6 (some .boolean), Cond.methodLink RX9 250 yX9_canBeSaved, Cond.instanceMethod yX9_canBeSaved, Cond.selects RX9 yX9_canBeSaved yX9_canBeSaved, Cond.code yX9_canBeSaved cX9_canBeSaved 3 (some .boolean), Cond.methodLink RX9 242 yX9_slackOf, Cond.instanceMethod yX9_slackOf, Cond.selects RX9 yX9_slackOf yX9_slackOf, Cond.code yX9_slackOf cX9_slackOf 2 (some .int), Cond.methodLink RX9 195 yX9_townOf, Cond.instanceMethod yX9_townOf, Cond.selects RX9 yX9_townOf yX9_townOf, Cond.code yX9_townOf cX9_townOf 2 (some .int), Cond.methodLink RX9 189 yX9_of, Cond.instanceMethod yX9_of]
def wsX9_mustGo_r2 : List Cond := [Cond.selects RX9 yX9_of yX9_of, Cond.code yX9_of cX9_of 3 (some .int), Cond.methodLink RX9 198 yX9_farOf, Cond.instanceMethod yX9_farOf, Cond.selects RX9 yX9_farOf yX9_farOf, Cond.code yX9_farOf cX9_farOf 3 (some .int), Cond.methodLink RX9 201 yX9_slackBy, Cond.instanceMethod yX9_slackBy, Cond.selects RX9 yX9_slackBy yX9_slackBy, Cond.code yX9_slackBy cX9_slackBy 4 (some .int), Cond.constant RX9 83 (-1000000), Cond.methodLink RX9 192 yX9_spanOf, Cond.instanceMethod yX9_spanOf, Cond.selects RX9 yX9_spanOf yX9_spanOf, Cond.code yX9_spanOf cX9_spanOf 3 (some .int)]
def wsX9_mustGo : List Cond := .code yX9_mustGo cX9_mustGo 4 (some .int) :: ((wsX9_mustGo_r1 ++ wsX9_mustGo_r2) ++ wsX90)
def wsX9_save_r1 : List Cond := [Cond.fieldLink RX9 47 "PenniesAwayModel" "thrown" "I", Cond.fieldLink RX9 179 "PenniesAwayModel" "isThere" "Z", Cond.constant RX9 210 (-1000002), Cond.constantLong RX9 224 (12), Cond.constant RX9 67 (-1000001), Cond.constant RX9 83 (-1000000), Cond.fieldLink RX9 19 "PenniesAwayModel" "realm" "[I", Cond.methodLink RX9 57 yX9_in, Cond.static yX9_in, Cond.initialized RX9, Cond.code yX9_in cX9_in 6 (some .boolean), Cond.methodLink RX9 250 yX9_canBeSaved, Cond.instanceMethod yX9_canBeSaved, Cond.selects RX9 yX9_canBeSaved yX9_canBeSaved, Cond.code yX9_canBeSaved cX9_canBeSaved 3 (some .boolean), Cond.methodLink RX9 242 yX9_slackOf, Cond.instanceMethod yX9_slackOf, Cond.selects RX9 yX9_slackOf yX9_slackOf, Cond.code yX9_slackOf cX9_slackOf 2 (some .int), Cond.methodLink RX9 195 yX9_townOf, Cond.instanceMethod yX9_townOf, Cond.selects RX9 yX9_townOf yX9_townOf, Cond.code yX9_townOf cX9_townOf 2 (some .int), Cond.methodLink RX9 189 yX9_of]
def wsX9_save_r2 : List Cond := [Cond.instanceMethod yX9_of, Cond.selects RX9 yX9_of yX9_of, Cond.code yX9_of cX9_of 3 (some .int), Cond.methodLink RX9 198 yX9_farOf, Cond.instanceMethod yX9_farOf, Cond.selects RX9 yX9_farOf yX9_farOf, Cond.code yX9_farOf cX9_farOf 3 (some .int), Cond.methodLink RX9 201 yX9_slackBy, Cond.instanceMethod yX9_slackBy, Cond.selects RX9 yX9_slackBy yX9_slackBy, Cond.code yX9_slackBy cX9_slackBy 4 (some .int), Cond.methodLink RX9 192 yX9_spanOf, Cond.instanceMethod yX9_spanOf, Cond.selects RX9 yX9_spanOf yX9_spanOf, Cond.code yX9_spanOf cX9_spanOf 3 (some .int)]
def wsX9_save : List Cond := .code yX9_save cX9_save 7 (some .int) :: ((wsX9_save_r1 ++ wsX9_save_r2) ++ wsX90)
def wsX9_daysOf : List Cond := .code yX9_daysOf cX9_daysOf 5 (some .int) :: ([.fieldLink RX9 19 "PenniesAwayModel" "realm" "[I", .fieldLink RX9 31 "PenniesAwayModel" "tried" "[I", .methodLink RX9 198 yX9_farOf, .instanceMethod yX9_farOf, .selects RX9 yX9_farOf yX9_farOf, .initialized RX9, .code yX9_farOf cX9_farOf 3 (some .int)] ++ wsX90)
def wsX9_nextOrder : List Cond := .code yX9_nextOrder cX9_nextOrder 7 (some .boolean) :: ([.fieldLink RX9 31 "PenniesAwayModel" "tried" "[I"] ++ wsX90)
def wsX9_layTour : List Cond := .code yX9_layTour cX9_layTour 7 (some .int) :: ([.fieldLink RX9 31 "PenniesAwayModel" "tried" "[I", .fieldLink RX9 34 "PenniesAwayModel" "best" "[I", .methodLink RX9 253 yX9_daysOf, .instanceMethod yX9_daysOf, .selects RX9 yX9_daysOf yX9_daysOf, .initialized RX9, .code yX9_daysOf cX9_daysOf 5 (some .int), .fieldLink RX9 19 "PenniesAwayModel" "realm" "[I", .methodLink RX9 198 yX9_farOf, .instanceMethod yX9_farOf, .selects RX9 yX9_farOf yX9_farOf, .code yX9_farOf cX9_farOf 3 (some .int), .methodLink RX9 256 yX9_nextOrder, .instanceMethod yX9_nextOrder, .selects RX9 yX9_nextOrder yX9_nextOrder, .code yX9_nextOrder cX9_nextOrder 7 (some .boolean)] ++ wsX90)
def wsX9_savedBy : List Cond := .code yX9_savedBy cX9_savedBy 7 (some .int) :: ([.fieldLink RX9 19 "PenniesAwayModel" "realm" "[I", .methodLink RX9 189 yX9_of, .instanceMethod yX9_of, .selects RX9 yX9_of yX9_of, .initialized RX9, .code yX9_of cX9_of 3 (some .int), .methodLink RX9 192 yX9_spanOf, .instanceMethod yX9_spanOf, .selects RX9 yX9_spanOf yX9_spanOf, .code yX9_spanOf cX9_spanOf 3 (some .int)] ++ wsX90)
def wsX9_tour_r1 : List Cond := [Cond.fieldLink RX9 47 "PenniesAwayModel" "thrown" "I", Cond.fieldLink RX9 179 "PenniesAwayModel" "isThere" "Z", Cond.constant RX9 210 (-1000002), Cond.fieldLink RX9 19 "PenniesAwayModel" "realm" "[I", Cond.constant RX9 67 (-1000001), Cond.constant RX9 83 (-1000000), Cond.fieldLink RX9 34 "PenniesAwayModel" "best" "[I", Cond.methodLink RX9 57 yX9_in, Cond.static yX9_in, Cond.initialized RX9, Cond.code yX9_in cX9_in 6 (some .boolean), Cond.methodLink RX9 259 yX9_layTour, Cond.instanceMethod yX9_layTour, Cond.selects RX9 yX9_layTour yX9_layTour, Cond.code yX9_layTour cX9_layTour 7 (some .int), Cond.fieldLink RX9 31 "PenniesAwayModel" "tried" "[I", Cond.methodLink RX9 253 yX9_daysOf, Cond.instanceMethod yX9_daysOf, Cond.selects RX9 yX9_daysOf yX9_daysOf, Cond.code yX9_daysOf cX9_daysOf 5 (some .int), Cond.methodLink RX9 198 yX9_farOf, Cond.instanceMethod yX9_farOf, Cond.selects RX9 yX9_farOf yX9_farOf, Cond.code yX9_farOf cX9_farOf 3 (some .int)]
def wsX9_tour_r2 : List Cond := [Cond.methodLink RX9 256 yX9_nextOrder, Cond.instanceMethod yX9_nextOrder, Cond.selects RX9 yX9_nextOrder yX9_nextOrder, Cond.code yX9_nextOrder cX9_nextOrder 7 (some .boolean), Cond.methodLink RX9 262 yX9_savedBy, Cond.instanceMethod yX9_savedBy, Cond.selects RX9 yX9_savedBy yX9_savedBy, Cond.code yX9_savedBy cX9_savedBy 7 (some .int), Cond.methodLink RX9 189 yX9_of, Cond.instanceMethod yX9_of, Cond.selects RX9 yX9_of yX9_of, Cond.code yX9_of cX9_of 3 (some .int), Cond.methodLink RX9 192 yX9_spanOf, Cond.instanceMethod yX9_spanOf, Cond.selects RX9 yX9_spanOf yX9_spanOf, Cond.code yX9_spanOf cX9_spanOf 3 (some .int)]
def wsX9_tour : List Cond := .code yX9_tour cX9_tour 6 (some .int) :: ((wsX9_tour_r1 ++ wsX9_tour_r2) ++ wsX90)
def wsX9_lateWith : List Cond := .code yX9_lateWith cX9_lateWith 7 (some .int) :: ([.fieldLink RX9 19 "PenniesAwayModel" "realm" "[I", .constant RX9 83 (-1000000), .methodLink RX9 195 yX9_townOf, .instanceMethod yX9_townOf, .selects RX9 yX9_townOf yX9_townOf, .initialized RX9, .code yX9_townOf cX9_townOf 2 (some .int), .methodLink RX9 189 yX9_of, .instanceMethod yX9_of, .selects RX9 yX9_of yX9_of, .code yX9_of cX9_of 3 (some .int), .methodLink RX9 198 yX9_farOf, .instanceMethod yX9_farOf, .selects RX9 yX9_farOf yX9_farOf, .code yX9_farOf cX9_farOf 3 (some .int), .methodLink RX9 201 yX9_slackBy, .instanceMethod yX9_slackBy, .selects RX9 yX9_slackBy yX9_slackBy, .code yX9_slackBy cX9_slackBy 4 (some .int), .methodLink RX9 192 yX9_spanOf, .instanceMethod yX9_spanOf, .selects RX9 yX9_spanOf yX9_spanOf, .code yX9_spanOf cX9_spanOf 3 (some .int)] ++ wsX90)
def wsX9_mint_r1 : List Cond := [Cond.fieldLink RX9 47 "PenniesAwayModel" "thrown" "I", Cond.fieldLink RX9 179 "PenniesAwayModel" "isThere" "Z", Cond.constant RX9 210 (-1000002), Cond.constant RX9 67 (-1000001), Cond.methodLink RX9 57 yX9_in, Cond.static yX9_in, Cond.initialized RX9, Cond.code yX9_in cX9_in 6 (some .boolean), Cond.methodLink RX9 265 yX9_lateWith, Cond.instanceMethod yX9_lateWith, Cond.selects RX9 yX9_lateWith yX9_lateWith, Cond.code yX9_lateWith cX9_lateWith 7 (some .int), Cond.fieldLink RX9 19 "PenniesAwayModel" "realm" "[I", Cond.constant RX9 83 (-1000000), Cond.methodLink RX9 195 yX9_townOf, Cond.instanceMethod yX9_townOf, Cond.selects RX9 yX9_townOf yX9_townOf, Cond.code yX9_townOf cX9_townOf 2 (some .int), Cond.methodLink RX9 189 yX9_of, Cond.instanceMethod yX9_of, Cond.selects RX9 yX9_of yX9_of, Cond.code yX9_of cX9_of 3 (some .int), Cond.methodLink RX9 198 yX9_farOf, Cond.instanceMethod yX9_farOf]
def wsX9_mint_r2 : List Cond := [Cond.selects RX9 yX9_farOf yX9_farOf, Cond.code yX9_farOf cX9_farOf 3 (some .int), Cond.methodLink RX9 201 yX9_slackBy, Cond.instanceMethod yX9_slackBy, Cond.selects RX9 yX9_slackBy yX9_slackBy, Cond.code yX9_slackBy cX9_slackBy 4 (some .int), Cond.methodLink RX9 192 yX9_spanOf, Cond.instanceMethod yX9_spanOf, Cond.selects RX9 yX9_spanOf yX9_spanOf, Cond.code yX9_spanOf cX9_spanOf 3 (some .int)]
def wsX9_mint : List Cond := .code yX9_mint cX9_mint 4 (some .int) :: ((wsX9_mint_r1 ++ wsX9_mint_r2) ++ wsX90)
def wsX9_sounds : List Cond := .code yX9_sounds cX9_sounds 7 (some .int) :: ([.fieldLink RX9 47 "PenniesAwayModel" "thrown" "I", .fieldLink RX9 179 "PenniesAwayModel" "isThere" "Z", .constant RX9 210 (-1000002), .constantLong RX9 55 (7), .constantLong RX9 248 (400), .constant RX9 67 (-1000001), .fieldLink RX9 19 "PenniesAwayModel" "realm" "[I", .methodLink RX9 57 yX9_in, .static yX9_in, .initialized RX9, .code yX9_in cX9_in 6 (some .boolean), .methodLink RX9 189 yX9_of, .instanceMethod yX9_of, .selects RX9 yX9_of yX9_of, .code yX9_of cX9_of 3 (some .int), .methodLink RX9 195 yX9_townOf, .instanceMethod yX9_townOf, .selects RX9 yX9_townOf yX9_townOf, .code yX9_townOf cX9_townOf 2 (some .int), .methodLink RX9 192 yX9_spanOf, .instanceMethod yX9_spanOf, .selects RX9 yX9_spanOf yX9_spanOf, .code yX9_spanOf cX9_spanOf 3 (some .int)] ++ wsX90)
def wsX9_timesOf : List Cond := .code yX9_timesOf cX9_timesOf 4 (some .int) :: ([])
def wsX9_ear : List Cond := .code yX9_ear cX9_ear 11 (some .int) :: ([.fieldLink RX9 47 "PenniesAwayModel" "thrown" "I", .constantLong RX9 240 (10), .constantLong RX9 268 (3), .constant RX9 67 (-1000001), .methodLink RX9 57 yX9_in, .static yX9_in, .initialized RX9, .code yX9_in cX9_in 6 (some .boolean), .methodLink RX9 270 yX9_timesOf, .static yX9_timesOf, .code yX9_timesOf cX9_timesOf 4 (some .int)] ++ wsX90)
def wsX9_image : List Cond := .code yX9_image cX9_image 3 (some .int) :: ([.fieldLink RX9 47 "PenniesAwayModel" "thrown" "I", .constant RX9 67 (-1000001), .fieldLink RX9 179 "PenniesAwayModel" "isThere" "Z", .constant RX9 210 (-1000002), .fieldLink RX9 41 "PenniesAwayModel" "kept" "[I", .fieldLink RX9 19 "PenniesAwayModel" "realm" "[I", .fieldLink RX9 37 "PenniesAwayModel" "isKept" "[Z", .methodLink RX9 57 yX9_in, .static yX9_in, .initialized RX9, .code yX9_in cX9_in 6 (some .boolean)] ++ wsX90)
def wsX9_restore : List Cond := .code yX9_restore cX9_restore 3 (some .int) :: ([.fieldLink RX9 47 "PenniesAwayModel" "thrown" "I", .constant RX9 67 (-1000001), .fieldLink RX9 37 "PenniesAwayModel" "isKept" "[Z", .constant RX9 210 (-1000002), .fieldLink RX9 19 "PenniesAwayModel" "realm" "[I", .fieldLink RX9 41 "PenniesAwayModel" "kept" "[I", .fieldLink RX9 183 "PenniesAwayModel" "acts" "I", .methodLink RX9 57 yX9_in, .static yX9_in, .initialized RX9, .code yX9_in cX9_in 6 (some .boolean)] ++ wsX90)
def wsX9_isOf : List Cond := .code yX9_isOf cX9_isOf 2 (some .boolean) :: ([])
def wsX9_kind : List Cond := .code yX9_kind cX9_kind 2 (some .int) :: ([.fieldLink RX9 47 "PenniesAwayModel" "thrown" "I", .constant RX9 67 (-1000001), .methodLink RX9 204 yX9_isCoin, .instanceMethod yX9_isCoin, .selects RX9 yX9_isCoin yX9_isCoin, .initialized RX9, .code yX9_isCoin cX9_isCoin 2 (some .boolean), .fieldLink RX9 19 "PenniesAwayModel" "realm" "[I", .methodLink RX9 57 yX9_in, .static yX9_in, .code yX9_in cX9_in 6 (some .boolean), .methodLink RX9 189 yX9_of, .instanceMethod yX9_of, .selects RX9 yX9_of yX9_of, .code yX9_of cX9_of 3 (some .int)] ++ wsX90)
def wsX9_as_r1 : List Cond := [Cond.fieldLink RX9 47 "PenniesAwayModel" "thrown" "I", Cond.constantLong RX9 273 (5), Cond.constant RX9 67 (-1000001), Cond.fieldLink RX9 51 "PenniesAwayModel" "status" "I", Cond.methodLink RX9 204 yX9_isCoin, Cond.instanceMethod yX9_isCoin, Cond.selects RX9 yX9_isCoin yX9_isCoin, Cond.initialized RX9, Cond.code yX9_isCoin cX9_isCoin 2 (some .boolean), Cond.fieldLink RX9 19 "PenniesAwayModel" "realm" "[I", Cond.methodLink RX9 57 yX9_in, Cond.static yX9_in, Cond.code yX9_in cX9_in 6 (some .boolean), Cond.methodLink RX9 189 yX9_of, Cond.instanceMethod yX9_of, Cond.selects RX9 yX9_of yX9_of, Cond.code yX9_of cX9_of 3 (some .int), Cond.methodLink RX9 275 yX9_isOf, Cond.static yX9_isOf, Cond.code yX9_isOf cX9_isOf 2 (some .boolean), Cond.methodLink RX9 68 yX9_finding, Cond.instanceMethod yX9_finding, Cond.selects RX9 yX9_finding yX9_finding, Cond.code yX9_finding cX9_finding 2 (some .int)]
def wsX9_as_r2 : List Cond := [Cond.constant RX9 54 (-1000010)]
def wsX9_as : List Cond := .code yX9_as cX9_as 3 (some .int) :: ((wsX9_as_r1 ++ wsX9_as_r2) ++ wsX90)
def wsX9_began : List Cond := .code yX9_began cX9_began 2 none :: ([.fieldLink RX9 279 "PenniesAwayModel" "traced" "I", .fieldLink RX9 44 "PenniesAwayModel" "trace" "[I"] ++ wsX90)
def wsX9_plainSize : List Cond := .code yX9_plainSize cX9_plainSize 2 (some .int) :: ([.methodLink RX9 282 yX9_began, .instanceMethod yX9_began, .selects RX9 yX9_began yX9_began, .initialized RX9, .code yX9_began cX9_began 2 none, .fieldLink RX9 279 "PenniesAwayModel" "traced" "I", .fieldLink RX9 44 "PenniesAwayModel" "trace" "[I", .methodLink RX9 189 yX9_of, .instanceMethod yX9_of, .selects RX9 yX9_of yX9_of, .code yX9_of cX9_of 3 (some .int), .fieldLink RX9 19 "PenniesAwayModel" "realm" "[I"] ++ wsX90)
def wsX9_forgedSize : List Cond := .code yX9_forgedSize cX9_forgedSize 2 (some .int) :: ([.methodLink RX9 282 yX9_began, .instanceMethod yX9_began, .selects RX9 yX9_began yX9_began, .initialized RX9, .code yX9_began cX9_began 2 none, .fieldLink RX9 279 "PenniesAwayModel" "traced" "I", .fieldLink RX9 44 "PenniesAwayModel" "trace" "[I", .methodLink RX9 285 yX9_plainSize, .instanceMethod yX9_plainSize, .selects RX9 yX9_plainSize yX9_plainSize, .code yX9_plainSize cX9_plainSize 2 (some .int), .methodLink RX9 189 yX9_of, .instanceMethod yX9_of, .selects RX9 yX9_of yX9_of, .code yX9_of cX9_of 3 (some .int), .fieldLink RX9 19 "PenniesAwayModel" "realm" "[I"] ++ wsX90)
def wsX9_markOf : List Cond := .code yX9_markOf cX9_markOf 4 (some .int) :: ([.methodLink RX9 189 yX9_of, .instanceMethod yX9_of, .selects RX9 yX9_of yX9_of, .initialized RX9, .code yX9_of cX9_of 3 (some .int), .fieldLink RX9 19 "PenniesAwayModel" "realm" "[I", .methodLink RX9 282 yX9_began, .instanceMethod yX9_began, .selects RX9 yX9_began yX9_began, .code yX9_began cX9_began 2 none, .fieldLink RX9 279 "PenniesAwayModel" "traced" "I", .fieldLink RX9 44 "PenniesAwayModel" "trace" "[I", .methodLink RX9 288 yX9_forgedSize, .instanceMethod yX9_forgedSize, .selects RX9 yX9_forgedSize yX9_forgedSize, .code yX9_forgedSize cX9_forgedSize 2 (some .int), .methodLink RX9 285 yX9_plainSize, .instanceMethod yX9_plainSize, .selects RX9 yX9_plainSize yX9_plainSize, .code yX9_plainSize cX9_plainSize 2 (some .int), .methodLink RX9 192 yX9_spanOf, .instanceMethod yX9_spanOf, .selects RX9 yX9_spanOf yX9_spanOf, .code yX9_spanOf cX9_spanOf 3 (some .int)] ++ wsX90)
def wsX9_sizeOf_r1 : List Cond := [Cond.methodLink RX9 189 yX9_of, Cond.instanceMethod yX9_of, Cond.selects RX9 yX9_of yX9_of, Cond.initialized RX9, Cond.code yX9_of cX9_of 3 (some .int), Cond.fieldLink RX9 19 "PenniesAwayModel" "realm" "[I", Cond.methodLink RX9 288 yX9_forgedSize, Cond.instanceMethod yX9_forgedSize, Cond.selects RX9 yX9_forgedSize yX9_forgedSize, Cond.code yX9_forgedSize cX9_forgedSize 2 (some .int), Cond.methodLink RX9 282 yX9_began, Cond.instanceMethod yX9_began, Cond.selects RX9 yX9_began yX9_began, Cond.code yX9_began cX9_began 2 none, Cond.fieldLink RX9 279 "PenniesAwayModel" "traced" "I", Cond.fieldLink RX9 44 "PenniesAwayModel" "trace" "[I", Cond.methodLink RX9 285 yX9_plainSize, Cond.instanceMethod yX9_plainSize, Cond.selects RX9 yX9_plainSize yX9_plainSize, Cond.code yX9_plainSize cX9_plainSize 2 (some .int), Cond.methodLink RX9 291 yX9_markOf, Cond.instanceMethod yX9_markOf, Cond.selects RX9 yX9_markOf yX9_markOf, Cond.code yX9_markOf cX9_markOf 4 (some .int)]
def wsX9_sizeOf_r2 : List Cond := [Cond.methodLink RX9 192 yX9_spanOf, Cond.instanceMethod yX9_spanOf, Cond.selects RX9 yX9_spanOf yX9_spanOf, Cond.code yX9_spanOf cX9_spanOf 3 (some .int)]
def wsX9_sizeOf : List Cond := .code yX9_sizeOf cX9_sizeOf 4 (some .int) :: ((wsX9_sizeOf_r1 ++ wsX9_sizeOf_r2) ++ wsX90)
def wsX9_ask_r1 : List Cond := [Cond.fieldLink RX9 47 "PenniesAwayModel" "thrown" "I", Cond.constant RX9 67 (-1000001), Cond.fieldLink RX9 279 "PenniesAwayModel" "traced" "I", Cond.methodLink RX9 204 yX9_isCoin, Cond.instanceMethod yX9_isCoin, Cond.selects RX9 yX9_isCoin yX9_isCoin, Cond.initialized RX9, Cond.code yX9_isCoin cX9_isCoin 2 (some .boolean), Cond.fieldLink RX9 19 "PenniesAwayModel" "realm" "[I", Cond.methodLink RX9 57 yX9_in, Cond.static yX9_in, Cond.code yX9_in cX9_in 6 (some .boolean), Cond.methodLink RX9 294 yX9_sizeOf, Cond.instanceMethod yX9_sizeOf, Cond.selects RX9 yX9_sizeOf yX9_sizeOf, Cond.code yX9_sizeOf cX9_sizeOf 4 (some .int), Cond.methodLink RX9 189 yX9_of, Cond.instanceMethod yX9_of, Cond.selects RX9 yX9_of yX9_of, Cond.code yX9_of cX9_of 3 (some .int), Cond.methodLink RX9 288 yX9_forgedSize, Cond.instanceMethod yX9_forgedSize, Cond.selects RX9 yX9_forgedSize yX9_forgedSize, Cond.code yX9_forgedSize cX9_forgedSize 2 (some .int)]
def wsX9_ask_r2 : List Cond := [Cond.methodLink RX9 282 yX9_began, Cond.instanceMethod yX9_began, Cond.selects RX9 yX9_began yX9_began, Cond.code yX9_began cX9_began 2 none, Cond.fieldLink RX9 44 "PenniesAwayModel" "trace" "[I", Cond.methodLink RX9 285 yX9_plainSize, Cond.instanceMethod yX9_plainSize, Cond.selects RX9 yX9_plainSize yX9_plainSize, Cond.code yX9_plainSize cX9_plainSize 2 (some .int), Cond.methodLink RX9 291 yX9_markOf, Cond.instanceMethod yX9_markOf, Cond.selects RX9 yX9_markOf yX9_markOf, Cond.code yX9_markOf cX9_markOf 4 (some .int), Cond.methodLink RX9 192 yX9_spanOf, Cond.instanceMethod yX9_spanOf, Cond.selects RX9 yX9_spanOf yX9_spanOf, Cond.code yX9_spanOf cX9_spanOf 3 (some .int)]
def wsX9_ask : List Cond := .code yX9_ask cX9_ask 3 (some .int) :: ((wsX9_ask_r1 ++ wsX9_ask_r2) ++ wsX90)
def wsX9_trace : List Cond := .code yX9_trace cX9_trace 2 (some .int) :: ([.fieldLink RX9 47 "PenniesAwayModel" "thrown" "I", .fieldLink RX9 279 "PenniesAwayModel" "traced" "I", .fieldLink RX9 44 "PenniesAwayModel" "trace" "[I", .constant RX9 83 (-1000000), .methodLink RX9 57 yX9_in, .static yX9_in, .initialized RX9, .code yX9_in cX9_in 6 (some .boolean)] ++ wsX90)
def wsX9_count : List Cond := .code yX9_count cX9_count 4 (some .int) :: ([.fieldLink RX9 47 "PenniesAwayModel" "thrown" "I", .fieldLink RX9 7 "PenniesAwayModel" "lane" "[I", .fieldLink RX9 19 "PenniesAwayModel" "realm" "[I", .fieldLink RX9 183 "PenniesAwayModel" "acts" "I", .fieldLink RX9 74 "PenniesAwayModel" "taped" "I", .constant RX9 67 (-1000001), .methodLink RX9 189 yX9_of, .instanceMethod yX9_of, .selects RX9 yX9_of yX9_of, .initialized RX9, .code yX9_of cX9_of 3 (some .int)] ++ wsX90)
def wsX9_status : List Cond := .code yX9_status cX9_status 1 (some .int) :: ([.fieldLink RX9 47 "PenniesAwayModel" "thrown" "I", .fieldLink RX9 51 "PenniesAwayModel" "status" "I"] ++ wsX90)
def wsJ9_max_7cf53 : List Cond := .code yJ9_max_7cf53 cJ9_max_7cf53 2 (some .int) :: ([])
def wsJ9_min_7cf53 : List Cond := .code yJ9_min_7cf53 cJ9_min_7cf53 2 (some .int) :: ([])
def wsL_law_r1 : List Cond := [Cond.classLink RL 7 RX8, Cond.instantiable RX8 11, Cond.initialized RX8, Cond.classLink RL 10 RX9, Cond.instantiable RX9 26, Cond.initialized RX9, Cond.constantLong RL 32 (4294967295), Cond.methodLink RL 9 yX8_init, Cond.instanceMethod yX8_init, Cond.code yX8_init cX8_init 2 none, Cond.methodLink RX8 1 objectInit, Cond.instanceMethod objectInit, Cond.code objectInit ⟨#[0xb1]⟩ 1 none, Cond.classLink RX8 9 RX6, Cond.fieldLink RX8 11 "PenniesAway" "rows" "[LPenniesAway$Row;", Cond.classLink RX8 15 RX5, Cond.fieldLink RX8 17 "PenniesAway" "images" "[LPenniesAway$Realm;", Cond.classLink RX8 21 RX4, Cond.instantiable RX4 4, Cond.initialized RX4, Cond.fieldLink RX8 24 "PenniesAway" "reader" "LPenniesAway$Reader;", Cond.fieldLink RX8 28 "PenniesAway$Reader" "text" "LPenniesAway$Tape;", Cond.fieldLink RX8 32 "PenniesAway" "tape" "LPenniesAway$Tape;", Cond.classLink RX8 35 RX0]
def wsL_law_r2 : List Cond := [Cond.instantiable RX0 3, Cond.initialized RX0, Cond.fieldLink RX8 38 "PenniesAway" "acts" "LPenniesAway$Acts;", Cond.classLink RX8 42 RX2, Cond.instantiable RX2 4, Cond.initialized RX2, Cond.fieldLink RX8 45 "PenniesAway" "carrier" "LPenniesAway$Carrier;", Cond.classLink RX8 49 RX1, Cond.instantiable RX1 6, Cond.initialized RX1, Cond.fieldLink RX8 52 "PenniesAway" "asker" "LPenniesAway$Asker;", Cond.instantiable RX5 8, Cond.initialized RX5, Cond.fieldLink RX8 57 "PenniesAway" "kingdom" "LPenniesAway$Realm;", Cond.fieldLink RX8 61 "PenniesAway" "draft" "LPenniesAway$Realm;", Cond.fieldLink RX8 64 "PenniesAway" "latestFinding" "I", Cond.fieldLink RX8 68 "PenniesAway" "latestFault" "I", Cond.instantiable RX6 3, Cond.initialized RX6, Cond.instanceMethod yX4_init, Cond.code yX4_init cX4_init 1 none, Cond.methodLink RX4 1 objectInit, Cond.classLink RX4 7 RX7, Cond.instantiable RX7 6]
def wsL_law_r3 : List Cond := [Cond.initialized RX7, Cond.fieldLink RX4 10 "PenniesAway$Reader" "text" "LPenniesAway$Tape;", Cond.fieldLink RX4 16 "PenniesAway$Reader" "taken" "I", Cond.fieldLink RX4 20 "PenniesAway$Reader" "faultNumber" "I", Cond.fieldLink RX4 23 "PenniesAway$Reader" "faultPlace" "I", Cond.instanceMethod yX7_init, Cond.code yX7_init cX7_init 1 none, Cond.methodLink RX7 1 objectInit, Cond.arrayClass .byte, Cond.fieldLink RX7 9 "PenniesAway$Tape" "bytes" "[B", Cond.fieldLink RX7 13 "PenniesAway$Tape" "length" "I", Cond.fieldLink RX7 17 "PenniesAway$Tape" "sort" "I", Cond.fieldLink RX7 20 "PenniesAway$Tape" "start" "I", Cond.fieldLink RX7 23 "PenniesAway$Tape" "number" "I", Cond.fieldLink RX7 26 "PenniesAway$Tape" "end" "I", Cond.instanceMethod yX0_init, Cond.code yX0_init cX0_init 1 none, Cond.methodLink RX0 1 objectInit, Cond.classLink RX0 11 "[[I", Cond.arrayClass .int, Cond.fieldLink RX0 13 "PenniesAway$Acts" "before" "[[I", Cond.fieldLink RX0 16 "PenniesAway$Acts" "next" "I", Cond.fieldLink RX0 20 "PenniesAway$Acts" "kept" "I", Cond.instanceMethod yX2_init]
def wsL_law_r4 : List Cond := [Cond.code yX2_init cX2_init 1 none, Cond.methodLink RX2 3 objectInit, Cond.fieldLink RX2 11 "PenniesAway$Carrier" "order" "[I", Cond.fieldLink RX2 17 "PenniesAway$Carrier" "path" "[I", Cond.fieldLink RX2 20 "PenniesAway$Carrier" "stops" "I", Cond.constant RX2 24 (-1000000), Cond.fieldLink RX2 25 "PenniesAway$Carrier" "fewest" "I", Cond.instanceMethod yX1_init, Cond.code yX1_init cX1_init 1 none, Cond.methodLink RX1 3 objectInit, Cond.fieldLink RX1 11 "PenniesAway$Asker" "notes" "[I", Cond.fieldLink RX1 15 "PenniesAway$Asker" "begun" "I", Cond.fieldLink RX1 19 "PenniesAway$Asker" "number" "I", Cond.fieldLink RX1 22 "PenniesAway$Asker" "kindAsked" "I", Cond.fieldLink RX1 25 "PenniesAway$Asker" "age" "I", Cond.fieldLink RX1 28 "PenniesAway$Asker" "span" "I", Cond.instanceMethod yX5_init, Cond.code yX5_init cX5_init 1 none, Cond.methodLink RX5 3 objectInit, Cond.fieldLink RX5 11 "PenniesAway$Realm" "ways" "[I", Cond.fieldLink RX5 15 "PenniesAway$Realm" "towns" "[I", Cond.fieldLink RX5 18 "PenniesAway$Realm" "kinds" "[I", Cond.fieldLink RX5 21 "PenniesAway$Realm" "changing" "[I", Cond.fieldLink RX5 24 "PenniesAway$Realm" "told" "Z"]
def wsL_law_r5 : List Cond := [Cond.fieldLink RX5 28 "PenniesAway$Realm" "leave" "I", Cond.fieldLink RX5 32 "PenniesAway$Realm" "holders" "I", Cond.fieldLink RX5 35 "PenniesAway$Realm" "coins" "I", Cond.instanceMethod yX6_init, Cond.code yX6_init cX6_init 1 none, Cond.methodLink RX6 1 objectInit, Cond.fieldLink RX6 9 "PenniesAway$Row" "items" "[I", Cond.fieldLink RX6 13 "PenniesAway$Row" "lane" "I", Cond.fieldLink RX6 17 "PenniesAway$Row" "size" "I", Cond.methodLink RL 12 yX9_init, Cond.instanceMethod yX9_init, Cond.code yX9_init cX9_init 1 none, Cond.methodLink RX9 1 objectInit, Cond.fieldLink RX9 7 "PenniesAwayModel" "lane" "[I", Cond.fieldLink RX9 13 "PenniesAwayModel" "many" "[I", Cond.fieldLink RX9 16 "PenniesAwayModel" "item" "[I", Cond.fieldLink RX9 19 "PenniesAwayModel" "realm" "[I", Cond.fieldLink RX9 22 "PenniesAwayModel" "fresh" "[I", Cond.fieldLink RX9 25 "PenniesAwayModel" "was" "[I", Cond.fieldLink RX9 28 "PenniesAwayModel" "tape" "[I", Cond.fieldLink RX9 31 "PenniesAwayModel" "tried" "[I", Cond.fieldLink RX9 34 "PenniesAwayModel" "best" "[I", Cond.arrayClass .boolean, Cond.fieldLink RX9 37 "PenniesAwayModel" "isKept" "[Z"]
def wsL_law_r6 : List Cond := [Cond.fieldLink RX9 41 "PenniesAwayModel" "kept" "[I", Cond.fieldLink RX9 44 "PenniesAwayModel" "trace" "[I", Cond.methodLink RL 13 yX8_row, Cond.instanceMethod yX8_row, Cond.selects RX8 yX8_row yX8_row, Cond.code yX8_row cX8_row 4 (some .int), Cond.constant RX8 80 (-1000001), Cond.methodLink RX8 72 yX8_noRow, Cond.static yX8_noRow, Cond.code yX8_noRow cX8_noRow 1 (some .boolean), Cond.methodLink RX8 76 yX8_outside, Cond.static yX8_outside, Cond.code yX8_outside cX8_outside 3 (some .boolean), Cond.methodLink RX8 81 yX8_found, Cond.instanceMethod yX8_found, Cond.selects RX8 yX8_found yX8_found, Cond.code yX8_found cX8_found 2 (some .int), Cond.constant RX8 281 (-1000010), Cond.methodLink RX8 85 yX6_lay, Cond.instanceMethod yX6_lay, Cond.selects RX6 yX6_lay yX6_lay, Cond.code yX6_lay cX6_lay 3 none, Cond.methodLink RX6 20 yJ7_fill_53178, Cond.static yJ7_fill_53178]
def wsL_law_r7 : List Cond := [Cond.initialized RJ7, Cond.code yJ7_fill_53178 cJ7_fill_53178 4 none, Cond.methodLink RX8 89 yX8_answered, Cond.instanceMethod yX8_answered, Cond.selects RX8 yX8_answered yX8_answered, Cond.code yX8_answered cX8_answered 2 (some .int), Cond.methodLink RL 17 yX9_row, Cond.instanceMethod yX9_row, Cond.selects RX9 yX9_row yX9_row, Cond.code yX9_row cX9_row 5 (some .int), Cond.fieldLink RX9 47 "PenniesAwayModel" "thrown" "I", Cond.constantLong RX9 65 (2), Cond.constant RX9 67 (-1000001), Cond.fieldLink RX9 51 "PenniesAwayModel" "status" "I", Cond.methodLink RX9 61 yX9_isRow, Cond.static yX9_isRow, Cond.code yX9_isRow cX9_isRow 1 (some .boolean), Cond.constantLong RX9 55 (7), Cond.methodLink RX9 57 yX9_in, Cond.static yX9_in, Cond.code yX9_in cX9_in 6 (some .boolean), Cond.methodLink RX9 68 yX9_finding, Cond.instanceMethod yX9_finding, Cond.selects RX9 yX9_finding yX9_finding]
def wsL_law_r8 : List Cond := [Cond.code yX9_finding cX9_finding 2 (some .int), Cond.constant RX9 54 (-1000010), Cond.methodLink RL 18 yX8_set, Cond.instanceMethod yX8_set, Cond.selects RX8 yX8_set yX8_set, Cond.code yX8_set cX8_set 5 (some .int), Cond.methodLink RX8 92 yX6_missing, Cond.instanceMethod yX6_missing, Cond.selects RX6 yX6_missing yX6_missing, Cond.code yX6_missing cX6_missing 1 (some .boolean), Cond.methodLink RX8 96 yX6_holds, Cond.instanceMethod yX6_holds, Cond.selects RX6 yX6_holds yX6_holds, Cond.code yX6_holds cX6_holds 3 (some .boolean), Cond.methodLink RX8 100 yX6_put, Cond.instanceMethod yX6_put, Cond.selects RX6 yX6_put yX6_put, Cond.code yX6_put cX6_put 4 (some .int), Cond.methodLink RL 21 yX9_set, Cond.instanceMethod yX9_set, Cond.selects RX9 yX9_set yX9_set, Cond.code yX9_set cX9_set 4 (some .int), Cond.methodLink RL 22 yX8_copy, Cond.instanceMethod yX8_copy]
def wsL_law_r9 : List Cond := [Cond.selects RX8 yX8_copy yX8_copy, Cond.code yX8_copy cX8_copy 8 (some .int), Cond.fieldLink RX8 104 "PenniesAway$Row" "lane" "I", Cond.fieldLink RX8 107 "PenniesAway$Row" "items" "[I", Cond.methodLink RX8 111 arraycopyName, Cond.native arraycopyName, Cond.static arraycopyName, Cond.initialized "java/lang/System", Cond.methodLink RL 26 yX9_copy, Cond.instanceMethod yX9_copy, Cond.selects RX9 yX9_copy yX9_copy, Cond.code yX9_copy cX9_copy 9 (some .int), Cond.methodLink RL 27 yX8_drop, Cond.instanceMethod yX8_drop, Cond.selects RX8 yX8_drop yX8_drop, Cond.code yX8_drop cX8_drop 4 (some .int), Cond.fieldLink RX8 117 "PenniesAway$Row" "size" "I", Cond.methodLink RX8 120 yX6_takeAway, Cond.instanceMethod yX6_takeAway, Cond.selects RX6 yX6_takeAway yX6_takeAway, Cond.code yX6_takeAway cX6_takeAway 1 none, Cond.methodLink RL 31 yX9_drop, Cond.instanceMethod yX9_drop, Cond.selects RX9 yX9_drop yX9_drop]
def wsL_law_r10 : List Cond := [Cond.code yX9_drop cX9_drop 2 (some .int), Cond.methodLink RL 34 yX8_feed, Cond.instanceMethod yX8_feed, Cond.selects RX8 yX8_feed yX8_feed, Cond.code yX8_feed cX8_feed 4 (some .int), Cond.fieldLink RX8 125 "PenniesAway$Tape" "length" "I", Cond.constant RX8 128 (-1000003), Cond.methodLink RX8 129 yX7_append, Cond.instanceMethod yX7_append, Cond.selects RX7 yX7_append yX7_append, Cond.code yX7_append cX7_append 5 none, Cond.methodLink RL 38 yX9_feed, Cond.instanceMethod yX9_feed, Cond.selects RX9 yX9_feed yX9_feed, Cond.code yX9_feed cX9_feed 5 (some .int), Cond.constantLong RX9 72 (8), Cond.fieldLink RX9 74 "PenniesAwayModel" "taped" "I", Cond.constant RX9 77 (-1000003), Cond.constantLong RX9 78 (255), Cond.methodLink RL 39 yX8_realm, Cond.instanceMethod yX8_realm, Cond.selects RX8 yX8_realm yX8_realm, Cond.code yX8_realm cX8_realm 3 (some .int), Cond.fieldLink RX8 140 "PenniesAway$Reader" "faultNumber" "I"]
def wsL_law_r11 : List Cond := [Cond.constant RX8 143 (-1000100), Cond.fieldLink RX8 144 "PenniesAway$Reader" "faultPlace" "I", Cond.fieldLink RX8 150 "PenniesAway$Realm" "coins" "I", Cond.methodLink RX8 133 yX4_read, Cond.instanceMethod yX4_read, Cond.selects RX4 yX4_read yX4_read, Cond.code yX4_read cX4_read 2 (some .boolean), Cond.fieldLink RX4 47 "PenniesAway$Tape" "sort" "I", Cond.fieldLink RX4 57 "PenniesAway$Realm" "told" "Z", Cond.methodLink RX4 26 yX5_clear, Cond.instanceMethod yX5_clear, Cond.selects RX5 yX5_clear yX5_clear, Cond.code yX5_clear cX5_clear 2 none, Cond.constant RX5 38 (1000000), Cond.methodLink RX5 39 yJ7_fill_53178, Cond.methodLink RX4 31 yX7_rewind, Cond.instanceMethod yX7_rewind, Cond.selects RX7 yX7_rewind yX7_rewind, Cond.code yX7_rewind cX7_rewind 1 none, Cond.methodLink RX7 29 yX7_step, Cond.instanceMethod yX7_step, Cond.selects RX7 yX7_step yX7_step, Cond.code yX7_step cX7_step 1 none, Cond.methodLink RX7 32 yX7_sortOfByte]
def wsL_law_r12 : List Cond := [Cond.instanceMethod yX7_sortOfByte, Cond.selects RX7 yX7_sortOfByte yX7_sortOfByte, Cond.code yX7_sortOfByte cX7_sortOfByte 3 (some .int), Cond.methodLink RX7 36 yX7_weighFigures, Cond.instanceMethod yX7_weighFigures, Cond.selects RX7 yX7_weighFigures yX7_weighFigures, Cond.code yX7_weighFigures cX7_weighFigures 2 none, Cond.methodLink RX4 34 yX4_readLaw, Cond.instanceMethod yX4_readLaw, Cond.selects RX4 yX4_readLaw yX4_readLaw, Cond.code yX4_readLaw cX4_readLaw 2 (some .boolean), Cond.fieldLink RX4 74 "PenniesAway$Realm" "leave" "I", Cond.methodLink RX4 63 yX7_isWord, Cond.instanceMethod yX7_isWord, Cond.selects RX7 yX7_isWord yX7_isWord, Cond.code yX7_isWord cX7_isWord 3 (some .boolean), Cond.methodLink RX7 39 yJ0_length_8abf5, Cond.instanceMethod yJ0_length_8abf5, Cond.selects RJ0 yJ0_length_8abf5 yJ0_length_8abf5, Cond.initialized RJ0, Cond.code yJ0_length_8abf5 cJ0_length_8abf5 1 (some .int), Cond.fieldLink RJ0 9 "java/lang/String" "value" "[B", Cond.methodLink RJ0 335 yJ0_coder_7d493, Cond.instanceMethod yJ0_coder_7d493]
def wsL_law_r13 : List Cond := [Cond.selects RJ0 yJ0_coder_7d493 yJ0_coder_7d493, Cond.code yJ0_coder_7d493 cJ0_coder_7d493 1 (some .byte), Cond.fieldLink RJ0 38 "java/lang/String" "COMPACT_STRINGS" "Z", Cond.fieldLink RJ0 15 "java/lang/String" "coder" "B", Cond.methodLink RX7 44 yJ0_charAt_5068e, Cond.instanceMethod yJ0_charAt_5068e, Cond.selects RJ0 yJ0_charAt_5068e yJ0_charAt_5068e, Cond.code yJ0_charAt_5068e cJ0_charAt_5068e 2 (some .char), Cond.methodLink RJ0 492 yJ0_isLatin1_aae02, Cond.instanceMethod yJ0_isLatin1_aae02, Cond.selects RJ0 yJ0_isLatin1_aae02 yJ0_isLatin1_aae02, Cond.code yJ0_isLatin1_aae02 cJ0_isLatin1_aae02 1 (some .boolean), Cond.methodLink RJ0 495 yJ1_charAt_3b067, Cond.static yJ1_charAt_3b067, Cond.initialized RJ1, Cond.code yJ1_charAt_3b067 cJ1_charAt_3b067 2 (some .char), Cond.methodLink RJ1 9 yJ0_checkIndex_df160, Cond.static yJ0_checkIndex_df160, Cond.code yJ0_checkIndex_df160 cJ0_checkIndex_df160 2 none, Cond.fieldLink RJ0 1053 "jdk/internal/util/Preconditions" "SIOOBE_FORMATTER" "Ljava/util/function/BiFunction;", Cond.methodLink RJ0 1059 yJ3_checkIndex_8e157, Cond.static yJ3_checkIndex_8e157, Cond.initialized RJ3, Cond.code yJ3_checkIndex_8e157 cJ3_checkIndex_8e157 3 (some .int)]
def wsL_law_r14 : List Cond := [Cond.methodLink RJ0 498 yJ2_charAt_3b067, Cond.static yJ2_charAt_3b067, Cond.initialized RJ2, Cond.code yJ2_charAt_3b067 cJ2_charAt_3b067 2 (some .char), Cond.methodLink RJ2 67 yJ2_checkIndex_2214a, Cond.static yJ2_checkIndex_2214a, Cond.code yJ2_checkIndex_2214a cJ2_checkIndex_2214a 2 none, Cond.methodLink RJ2 48 yJ2_length_9d52b, Cond.static yJ2_length_9d52b, Cond.code yJ2_length_9d52b cJ2_length_9d52b 1 (some .int), Cond.methodLink RJ2 414 yJ0_checkIndex_df160, Cond.methodLink RJ2 71 yJ2_getChar_3b067, Cond.static yJ2_getChar_3b067, Cond.code yJ2_getChar_3b067 cJ2_getChar_3b067 2 (some .char), Cond.fieldLink RJ2 44 "java/lang/StringUTF16" "$assertionsDisabled" "Z", Cond.fieldLink RJ2 59 "java/lang/StringUTF16" "HI_BYTE_SHIFT" "I", Cond.fieldLink RJ2 63 "java/lang/StringUTF16" "LO_BYTE_SHIFT" "I", Cond.methodLink RX4 50 yX4_faulty, Cond.instanceMethod yX4_faulty, Cond.selects RX4 yX4_faulty yX4_faulty, Cond.code yX4_faulty cX4_faulty 2 (some .boolean), Cond.fieldLink RX4 132 "PenniesAway$Tape" "start" "I", Cond.methodLink RX4 67 yX7_step, Cond.methodLink RX4 70 yX4_takeNumber]
def wsL_law_r15 : List Cond := [Cond.instanceMethod yX4_takeNumber, Cond.selects RX4 yX4_takeNumber yX4_takeNumber, Cond.code yX4_takeNumber cX4_takeNumber 3 (some .boolean), Cond.fieldLink RX4 86 "PenniesAway$Tape" "number" "I", Cond.methodLink RX4 77 yX4_takeSign, Cond.instanceMethod yX4_takeSign, Cond.selects RX4 yX4_takeSign yX4_takeSign, Cond.code yX4_takeSign cX4_takeSign 1 (some .boolean), Cond.methodLink RX4 38 yX4_readRoads, Cond.instanceMethod yX4_readRoads, Cond.selects RX4 yX4_readRoads yX4_readRoads, Cond.code yX4_readRoads cX4_readRoads 3 (some .boolean), Cond.methodLink RX4 83 yX4_readRoad, Cond.instanceMethod yX4_readRoad, Cond.selects RX4 yX4_readRoad yX4_readRoad, Cond.code yX4_readRoad cX4_readRoad 4 (some .boolean), Cond.methodLink RX4 89 yX5_addRoad, Cond.instanceMethod yX5_addRoad, Cond.selects RX5 yX5_addRoad yX5_addRoad, Cond.code yX5_addRoad cX5_addRoad 5 none, Cond.methodLink RX5 51 Lib.Math.min.name, Cond.static Lib.Math.min.name, Cond.initialized "java/lang/Math", Cond.code Lib.Math.min.name Lib.Math.min.code 2 (some .int)]
def wsL_law_r16 : List Cond := [Cond.methodLink RX4 41 yX4_readHolders, Cond.instanceMethod yX4_readHolders, Cond.selects RX4 yX4_readHolders yX4_readHolders, Cond.code yX4_readHolders cX4_readHolders 3 (some .boolean), Cond.methodLink RX4 95 yX5_addHolder, Cond.instanceMethod yX5_addHolder, Cond.selects RX5 yX5_addHolder yX5_addHolder, Cond.code yX5_addHolder cX5_addHolder 2 none, Cond.methodLink RX4 44 yX4_readCoins, Cond.instanceMethod yX4_readCoins, Cond.selects RX4 yX4_readCoins yX4_readCoins, Cond.code yX4_readCoins cX4_readCoins 3 (some .boolean), Cond.methodLink RX4 101 yX4_readCoin, Cond.instanceMethod yX4_readCoin, Cond.selects RX4 yX4_readCoin yX4_readCoin, Cond.code yX4_readCoin cX4_readCoin 4 (some .boolean), Cond.fieldLink RX4 108 "PenniesAway$Realm" "holders" "I", Cond.methodLink RX4 104 yX4_kindOfWord, Cond.instanceMethod yX4_kindOfWord, Cond.selects RX4 yX4_kindOfWord yX4_kindOfWord, Cond.code yX4_kindOfWord cX4_kindOfWord 1 (some .int), Cond.methodLink RX4 111 yX5_addCoin, Cond.instanceMethod yX5_addCoin, Cond.selects RX5 yX5_addCoin yX5_addCoin]
def wsL_law_r17 : List Cond := [Cond.code yX5_addCoin cX5_addCoin 4 none, Cond.methodLink RX5 57 yX5_put, Cond.instanceMethod yX5_put, Cond.selects RX5 yX5_put yX5_put, Cond.code yX5_put cX5_put 4 none, Cond.methodLink RX4 54 yX5_shortenWays, Cond.instanceMethod yX5_shortenWays, Cond.selects RX5 yX5_shortenWays yX5_shortenWays, Cond.code yX5_shortenWays cX5_shortenWays 5 none, Cond.methodLink RX8 137 yX7_empty, Cond.instanceMethod yX7_empty, Cond.selects RX7 yX7_empty yX7_empty, Cond.code yX7_empty cX7_empty 1 none, Cond.methodLink RX8 147 yX0_forgetAll, Cond.instanceMethod yX0_forgetAll, Cond.selects RX0 yX0_forgetAll yX0_forgetAll, Cond.code yX0_forgetAll cX0_forgetAll 1 none, Cond.methodLink RL 43 yX9_realm, Cond.instanceMethod yX9_realm, Cond.selects RX9 yX9_realm yX9_realm, Cond.code yX9_realm cX9_realm 2 (some .int), Cond.constantLong RX9 158 (7102839), Cond.constantLong RX9 160 (1919902052), Cond.constantLong RX9 165 (114827769177458)]
def wsL_law_r18 : List Cond := [Cond.constantLong RX9 170 (1668245870), Cond.fieldLink RX9 105 "PenniesAwayModel" "fault" "I", Cond.fieldLink RX9 93 "PenniesAwayModel" "token" "I", Cond.fieldLink RX9 175 "PenniesAwayModel" "latest" "I", Cond.constant RX9 178 (-1000100), Cond.fieldLink RX9 111 "PenniesAwayModel" "faultAt" "I", Cond.fieldLink RX9 179 "PenniesAwayModel" "isThere" "Z", Cond.fieldLink RX9 183 "PenniesAwayModel" "acts" "I", Cond.methodLink RX9 155 yX9_begin, Cond.instanceMethod yX9_begin, Cond.selects RX9 yX9_begin yX9_begin, Cond.code yX9_begin cX9_begin 1 none, Cond.fieldLink RX9 80 "PenniesAwayModel" "length" "I", Cond.fieldLink RX9 84 "PenniesAwayModel" "cursor" "I", Cond.methodLink RX9 108 yX9_next, Cond.instanceMethod yX9_next, Cond.selects RX9 yX9_next yX9_next, Cond.code yX9_next cX9_next 2 none, Cond.fieldLink RX9 90 "PenniesAwayModel" "start" "I", Cond.constant RX9 83 (-1000000), Cond.fieldLink RX9 102 "PenniesAwayModel" "till" "I", Cond.methodLink RX9 87 yX9_byteAt, Cond.instanceMethod yX9_byteAt, Cond.selects RX9 yX9_byteAt yX9_byteAt]
def wsL_law_r19 : List Cond := [Cond.code yX9_byteAt cX9_byteAt 2 (some .int), Cond.methodLink RX9 96 yX9_isLetter, Cond.static yX9_isLetter, Cond.code yX9_isLetter cX9_isLetter 1 (some .boolean), Cond.methodLink RX9 99 yX9_isFigure, Cond.static yX9_isFigure, Cond.code yX9_isFigure cX9_isFigure 1 (some .boolean), Cond.methodLink RX9 147 yX9_name, Cond.instanceMethod yX9_name, Cond.selects RX9 yX9_name yX9_name, Cond.code yX9_name cX9_name 4 (some .long), Cond.methodLink RX9 122 yX9_must, Cond.instanceMethod yX9_must, Cond.selects RX9 yX9_must yX9_must, Cond.code yX9_must cX9_must 2 none, Cond.methodLink RX9 114 yX9_bad, Cond.instanceMethod yX9_bad, Cond.selects RX9 yX9_bad yX9_bad, Cond.code yX9_bad cX9_bad 2 none, Cond.methodLink RX9 140 yX9_number, Cond.instanceMethod yX9_number, Cond.selects RX9 yX9_number yX9_number, Cond.code yX9_number cX9_number 4 (some .int), Cond.methodLink RX9 118 yX9_figures]
def wsL_law_r20 : List Cond := [Cond.instanceMethod yX9_figures, Cond.selects RX9 yX9_figures yX9_figures, Cond.code yX9_figures cX9_figures 3 (some .int), Cond.methodLink RX9 144 yX9_mustEnd, Cond.instanceMethod yX9_mustEnd, Cond.selects RX9 yX9_mustEnd yX9_mustEnd, Cond.code yX9_mustEnd cX9_mustEnd 1 none, Cond.methodLink RX9 162 yX9_readRoad, Cond.instanceMethod yX9_readRoad, Cond.selects RX9 yX9_readRoad yX9_readRoad, Cond.code yX9_readRoad cX9_readRoad 5 none, Cond.methodLink RX9 136 yX9_begins, Cond.instanceMethod yX9_begins, Cond.selects RX9 yX9_begins yX9_begins, Cond.code yX9_begins cX9_begins 3 none, Cond.methodLink RX9 167 yX9_readHolder, Cond.instanceMethod yX9_readHolder, Cond.selects RX9 yX9_readHolder yX9_readHolder, Cond.code yX9_readHolder cX9_readHolder 2 none, Cond.methodLink RX9 172 yX9_readCoin, Cond.instanceMethod yX9_readCoin, Cond.selects RX9 yX9_readCoin yX9_readCoin, Cond.code yX9_readCoin cX9_readCoin 5 none, Cond.methodLink RX9 151 yX9_kindBy]
def wsL_law_r21 : List Cond := [Cond.static yX9_kindBy, Cond.code yX9_kindBy cX9_kindBy 2 (some .int), Cond.constantLong RX9 126 (1735355492), Cond.constantLong RX9 128 (126896628458866), Cond.constantLong RX9 130 (109330278933874), Cond.constantLong RX9 132 (112628846781796), Cond.constantLong RX9 134 (7302244), Cond.methodLink RX9 186 yX9_layFar, Cond.instanceMethod yX9_layFar, Cond.selects RX9 yX9_layFar yX9_layFar, Cond.code yX9_layFar cX9_layFar 5 none, Cond.methodLink RL 44 yX8_fault, Cond.instanceMethod yX8_fault, Cond.selects RX8 yX8_fault yX8_fault, Cond.code yX8_fault cX8_fault 1 (some .int), Cond.methodLink RL 47 yX9_fault, Cond.instanceMethod yX9_fault, Cond.selects RX9 yX9_fault yX9_fault, Cond.code yX9_fault cX9_fault 1 (some .int), Cond.methodLink RL 48 yX8_pass, Cond.instanceMethod yX8_pass, Cond.selects RX8 yX8_pass yX8_pass, Cond.code yX8_pass cX8_pass 4 (some .int), Cond.fieldLink RX8 156 "PenniesAway$Realm" "holders" "I"]
def wsL_law_r22 : List Cond := [Cond.fieldLink RX8 165 "PenniesAway$Realm" "towns" "[I", Cond.constant RX8 168 (-1000002), Cond.fieldLink RX8 169 "PenniesAway$Realm" "changing" "[I", Cond.methodLink RX8 153 yX8_noCoin, Cond.instanceMethod yX8_noCoin, Cond.selects RX8 yX8_noCoin yX8_noCoin, Cond.code yX8_noCoin cX8_noCoin 2 (some .boolean), Cond.methodLink RX8 159 yX5_about, Cond.instanceMethod yX5_about, Cond.selects RX5 yX5_about yX5_about, Cond.code yX5_about cX5_about 3 (some .int), Cond.methodLink RX8 162 yX5_withHolder, Cond.instanceMethod yX5_withHolder, Cond.selects RX5 yX5_withHolder yX5_withHolder, Cond.code yX5_withHolder cX5_withHolder 2 (some .boolean), Cond.methodLink RX5 62 yX5_about, Cond.methodLink RX8 172 yX0_keep, Cond.instanceMethod yX0_keep, Cond.selects RX0 yX0_keep yX0_keep, Cond.code yX0_keep cX0_keep 2 none, Cond.methodLink RX0 23 arraycopyName, Cond.methodLink RX0 29 Lib.Math.min.name, Cond.methodLink RX8 176 yX5_put, Cond.methodLink RL 52 yX9_pass]
def wsL_law_r23 : List Cond := [Cond.instanceMethod yX9_pass, Cond.selects RX9 yX9_pass yX9_pass, Cond.code yX9_pass cX9_pass 4 (some .int), Cond.constant RX9 210 (-1000002), Cond.methodLink RX9 204 yX9_isCoin, Cond.instanceMethod yX9_isCoin, Cond.selects RX9 yX9_isCoin yX9_isCoin, Cond.code yX9_isCoin cX9_isCoin 2 (some .boolean), Cond.methodLink RX9 207 yX9_isHolder, Cond.instanceMethod yX9_isHolder, Cond.selects RX9 yX9_isHolder yX9_isHolder, Cond.code yX9_isHolder cX9_isHolder 2 (some .boolean), Cond.methodLink RX9 189 yX9_of, Cond.instanceMethod yX9_of, Cond.selects RX9 yX9_of yX9_of, Cond.code yX9_of cX9_of 3 (some .int), Cond.methodLink RX9 195 yX9_townOf, Cond.instanceMethod yX9_townOf, Cond.selects RX9 yX9_townOf yX9_townOf, Cond.code yX9_townOf cX9_townOf 2 (some .int), Cond.methodLink RX9 211 yX9_keep, Cond.instanceMethod yX9_keep, Cond.selects RX9 yX9_keep yX9_keep, Cond.code yX9_keep cX9_keep 2 none]
def wsL_law_r24 : List Cond := [Cond.methodLink RX9 214 yX9_becomes, Cond.instanceMethod yX9_becomes, Cond.selects RX9 yX9_becomes yX9_becomes, Cond.code yX9_becomes cX9_becomes 4 none, Cond.methodLink RL 53 yX8_send, Cond.instanceMethod yX8_send, Cond.selects RX8 yX8_send yX8_send, Cond.code yX8_send cX8_send 2 (some .int), Cond.methodLink RX8 179 yX5_canGoHome, Cond.instanceMethod yX5_canGoHome, Cond.selects RX5 yX5_canGoHome yX5_canGoHome, Cond.code yX5_canGoHome cX5_canGoHome 2 (some .boolean), Cond.constant RX5 61 (-1000000), Cond.methodLink RX5 67 yX5_withHolder, Cond.methodLink RX5 71 yX5_townOf, Cond.instanceMethod yX5_townOf, Cond.selects RX5 yX5_townOf yX5_townOf, Cond.code yX5_townOf cX5_townOf 2 (some .int), Cond.methodLink RX5 75 yX5_distance, Cond.instanceMethod yX5_distance, Cond.selects RX5 yX5_distance yX5_distance, Cond.code yX5_distance cX5_distance 4 (some .int), Cond.methodLink RX8 182 yX8_sendKept, Cond.instanceMethod yX8_sendKept]
def wsL_law_r25 : List Cond := [Cond.selects RX8 yX8_sendKept yX8_sendKept, Cond.code yX8_sendKept cX8_sendKept 2 (some .int), Cond.methodLink RX8 278 yX5_startHome, Cond.instanceMethod yX5_startHome, Cond.selects RX5 yX5_startHome yX5_startHome, Cond.code yX5_startHome cX5_startHome 3 (some .int), Cond.methodLink RL 56 yX9_send, Cond.instanceMethod yX9_send, Cond.selects RX9 yX9_send yX9_send, Cond.code yX9_send cX9_send 2 (some .int), Cond.methodLink RX9 218 yX9_maySend, Cond.instanceMethod yX9_maySend, Cond.selects RX9 yX9_maySend yX9_maySend, Cond.code yX9_maySend cX9_maySend 2 (some .boolean), Cond.methodLink RX9 198 yX9_farOf, Cond.instanceMethod yX9_farOf, Cond.selects RX9 yX9_farOf yX9_farOf, Cond.code yX9_farOf cX9_farOf 3 (some .int), Cond.methodLink RX9 221 yX9_sends, Cond.instanceMethod yX9_sends, Cond.selects RX9 yX9_sends yX9_sends, Cond.code yX9_sends cX9_sends 2 none, Cond.methodLink RL 57 yX8_sendAll, Cond.instanceMethod yX8_sendAll]
def wsL_law_r26 : List Cond := [Cond.selects RX8 yX8_sendAll yX8_sendAll, Cond.code yX8_sendAll cX8_sendAll 7 (some .int), Cond.fieldLink RX8 185 "PenniesAway$Realm" "told" "Z", Cond.methodLink RL 60 yX9_sendAll, Cond.instanceMethod yX9_sendAll, Cond.selects RX9 yX9_sendAll yX9_sendAll, Cond.code yX9_sendAll cX9_sendAll 6 (some .int), Cond.constantLong RX9 224 (12), Cond.methodLink RL 61 yX8_days, Cond.instanceMethod yX8_days, Cond.selects RX8 yX8_days yX8_days, Cond.code yX8_days cX8_days 4 (some .int), Cond.methodLink RX8 189 yX5_today, Cond.instanceMethod yX5_today, Cond.selects RX5 yX5_today yX5_today, Cond.code yX5_today cX5_today 1 (some .int), Cond.methodLink RX8 193 yX5_liveDay, Cond.instanceMethod yX5_liveDay, Cond.selects RX5 yX5_liveDay yX5_liveDay, Cond.code yX5_liveDay cX5_liveDay 3 (some .int), Cond.methodLink RX5 78 yX5_dumb, Cond.instanceMethod yX5_dumb, Cond.selects RX5 yX5_dumb yX5_dumb, Cond.code yX5_dumb cX5_dumb 2 (some .boolean)]
def wsL_law_r27 : List Cond := [Cond.methodLink RX5 81 yX5_underWay, Cond.instanceMethod yX5_underWay, Cond.selects RX5 yX5_underWay yX5_underWay, Cond.code yX5_underWay cX5_underWay 2 (some .boolean), Cond.methodLink RX5 84 yX5_travel, Cond.instanceMethod yX5_travel, Cond.selects RX5 yX5_travel yX5_travel, Cond.code yX5_travel cX5_travel 2 none, Cond.methodLink RX5 88 yX5_forged, Cond.instanceMethod yX5_forged, Cond.selects RX5 yX5_forged yX5_forged, Cond.code yX5_forged cX5_forged 2 (some .boolean), Cond.methodLink RX5 91 yX5_spanOf, Cond.instanceMethod yX5_spanOf, Cond.selects RX5 yX5_spanOf yX5_spanOf, Cond.code yX5_spanOf cX5_spanOf 2 (some .int), Cond.methodLink RL 64 yX9_days, Cond.instanceMethod yX9_days, Cond.selects RX9 yX9_days yX9_days, Cond.code yX9_days cX9_days 5 (some .int), Cond.constantLong RX9 229 (99), Cond.methodLink RX9 231 yX9_goesOn, Cond.instanceMethod yX9_goesOn, Cond.selects RX9 yX9_goesOn yX9_goesOn]
def wsL_law_r28 : List Cond := [Cond.code yX9_goesOn cX9_goesOn 2 none, Cond.methodLink RX9 226 yX9_arrives, Cond.instanceMethod yX9_arrives, Cond.selects RX9 yX9_arrives yX9_arrives, Cond.code yX9_arrives cX9_arrives 2 none, Cond.methodLink RX9 192 yX9_spanOf, Cond.instanceMethod yX9_spanOf, Cond.selects RX9 yX9_spanOf yX9_spanOf, Cond.code yX9_spanOf cX9_spanOf 3 (some .int), Cond.methodLink RL 65 yX8_flood, Cond.instanceMethod yX8_flood, Cond.selects RX8 yX8_flood yX8_flood, Cond.code yX8_flood cX8_flood 2 (some .int), Cond.constant RX8 196 (999999), Cond.methodLink RX8 197 yX5_holdUp, Cond.instanceMethod yX5_holdUp, Cond.selects RX5 yX5_holdUp yX5_holdUp, Cond.code yX5_holdUp cX5_holdUp 7 (some .int), Cond.constantLong RX5 94 (16807), Cond.constantLong RX5 96 (2147483647), Cond.constantLong RX5 98 (10), Cond.methodLink RL 68 yX9_flood, Cond.instanceMethod yX9_flood, Cond.selects RX9 yX9_flood yX9_flood]
def wsL_law_r29 : List Cond := [Cond.code yX9_flood cX9_flood 7 (some .int), Cond.constantLong RX9 234 (999999), Cond.constantLong RX9 236 (16807), Cond.constantLong RX9 238 (2147483647), Cond.constantLong RX9 240 (10), Cond.methodLink RL 69 yX8_undo, Cond.instanceMethod yX8_undo, Cond.selects RX8 yX8_undo yX8_undo, Cond.code yX8_undo cX8_undo 1 (some .int), Cond.fieldLink RX8 200 "PenniesAway$Acts" "kept" "I", Cond.methodLink RX8 203 yX0_takeBack, Cond.instanceMethod yX0_takeBack, Cond.selects RX0 yX0_takeBack yX0_takeBack, Cond.code yX0_takeBack cX0_takeBack 2 none, Cond.methodLink RL 72 yX9_undo, Cond.instanceMethod yX9_undo, Cond.selects RX9 yX9_undo yX9_undo, Cond.code yX9_undo cX9_undo 2 (some .int), Cond.methodLink RL 73 yX8_coin, Cond.instanceMethod yX8_coin, Cond.selects RX8 yX8_coin yX8_coin, Cond.code yX8_coin cX8_coin 3 (some .int), Cond.methodLink RX8 206 yX5_spanOf, Cond.methodLink RX8 209 yX5_slackOf]
def wsL_law_r30 : List Cond := [Cond.instanceMethod yX5_slackOf, Cond.selects RX5 yX5_slackOf yX5_slackOf, Cond.code yX5_slackOf cX5_slackOf 2 (some .int), Cond.methodLink RX5 100 yX5_slackWithMint, Cond.instanceMethod yX5_slackWithMint, Cond.selects RX5 yX5_slackWithMint yX5_slackWithMint, Cond.code yX5_slackWithMint cX5_slackWithMint 5 (some .int), Cond.methodLink RX8 212 yX5_worthOf, Cond.instanceMethod yX5_worthOf, Cond.selects RX5 yX5_worthOf yX5_worthOf, Cond.code yX5_worthOf cX5_worthOf 4 (some .int), Cond.methodLink RX5 103 yX5_slackOf, Cond.methodLink RL 76 yX9_coin, Cond.instanceMethod yX9_coin, Cond.selects RX9 yX9_coin yX9_coin, Cond.code yX9_coin cX9_coin 3 (some .int), Cond.methodLink RX9 242 yX9_slackOf, Cond.instanceMethod yX9_slackOf, Cond.selects RX9 yX9_slackOf yX9_slackOf, Cond.code yX9_slackOf cX9_slackOf 2 (some .int), Cond.methodLink RX9 201 yX9_slackBy, Cond.instanceMethod yX9_slackBy, Cond.selects RX9 yX9_slackBy yX9_slackBy, Cond.code yX9_slackBy cX9_slackBy 4 (some .int)]
def wsL_law_r31 : List Cond := [Cond.methodLink RX9 245 yX9_worthOf, Cond.instanceMethod yX9_worthOf, Cond.selects RX9 yX9_worthOf yX9_worthOf, Cond.code yX9_worthOf cX9_worthOf 3 (some .int), Cond.methodLink RL 77 yX8_far, Cond.instanceMethod yX8_far, Cond.selects RX8 yX8_far yX8_far, Cond.code yX8_far cX8_far 3 (some .int), Cond.methodLink RX8 215 yX5_distance, Cond.methodLink RL 80 yX9_far, Cond.instanceMethod yX9_far, Cond.selects RX9 yX9_far yX9_far, Cond.code yX9_far cX9_far 3 (some .int), Cond.methodLink RL 81 yX8_late, Cond.instanceMethod yX8_late, Cond.selects RX8 yX8_late yX8_late, Cond.code yX8_late cX8_late 1 (some .int), Cond.methodLink RX8 218 yX5_lateCoins, Cond.instanceMethod yX5_lateCoins, Cond.selects RX5 yX5_lateCoins yX5_lateCoins, Cond.code yX5_lateCoins cX5_lateCoins 3 (some .int), Cond.methodLink RX5 106 yX5_isLate, Cond.static yX5_isLate, Cond.code yX5_isLate cX5_isLate 1 (some .boolean)]
def wsL_law_r32 : List Cond := [Cond.methodLink RL 84 yX9_late, Cond.instanceMethod yX9_late, Cond.selects RX9 yX9_late yX9_late, Cond.code yX9_late cX9_late 4 (some .int), Cond.methodLink RL 85 yX8_mustGo, Cond.instanceMethod yX8_mustGo, Cond.selects RX8 yX8_mustGo yX8_mustGo, Cond.code yX8_mustGo cX8_mustGo 2 (some .int), Cond.methodLink RX8 221 yX5_coinsToGo, Cond.instanceMethod yX5_coinsToGo, Cond.selects RX5 yX5_coinsToGo yX5_coinsToGo, Cond.code yX5_coinsToGo cX5_coinsToGo 5 (some .int), Cond.methodLink RX5 109 yX5_slackAtHolder, Cond.instanceMethod yX5_slackAtHolder, Cond.selects RX5 yX5_slackAtHolder yX5_slackAtHolder, Cond.code yX5_slackAtHolder cX5_slackAtHolder 2 (some .int), Cond.methodLink RL 88 yX9_mustGo, Cond.instanceMethod yX9_mustGo, Cond.selects RX9 yX9_mustGo yX9_mustGo, Cond.code yX9_mustGo cX9_mustGo 4 (some .int), Cond.constantLong RX9 248 (400), Cond.methodLink RX9 250 yX9_canBeSaved, Cond.instanceMethod yX9_canBeSaved, Cond.selects RX9 yX9_canBeSaved yX9_canBeSaved]
def wsL_law_r33 : List Cond := [Cond.code yX9_canBeSaved cX9_canBeSaved 3 (some .boolean), Cond.methodLink RL 89 yX8_save, Cond.instanceMethod yX8_save, Cond.selects RX8 yX8_save yX8_save, Cond.code yX8_save cX8_save 2 (some .int), Cond.methodLink RX8 224 yX5_coinsForMessengers, Cond.instanceMethod yX5_coinsForMessengers, Cond.selects RX5 yX5_coinsForMessengers yX5_coinsForMessengers, Cond.code yX5_coinsForMessengers cX5_coinsForMessengers 4 (some .int), Cond.methodLink RX5 112 yX5_mostPressing, Cond.instanceMethod yX5_mostPressing, Cond.selects RX5 yX5_mostPressing yX5_mostPressing, Cond.code yX5_mostPressing cX5_mostPressing 6 (some .int), Cond.methodLink RL 92 yX9_save, Cond.instanceMethod yX9_save, Cond.selects RX9 yX9_save yX9_save, Cond.code yX9_save cX9_save 7 (some .int), Cond.methodLink RL 93 yX8_tour, Cond.instanceMethod yX8_tour, Cond.selects RX8 yX8_tour yX8_tour, Cond.code yX8_tour cX8_tour 4 (some .int), Cond.constant RX8 231 (-1000000), Cond.methodLink RX8 227 yX2_plan, Cond.instanceMethod yX2_plan]
def wsL_law_r34 : List Cond := [Cond.selects RX2 yX2_plan yX2_plan, Cond.code yX2_plan cX2_plan 3 (some .int), Cond.methodLink RX2 28 yJ6_bitCount_0f7a4, Cond.static yJ6_bitCount_0f7a4, Cond.initialized RJ6, Cond.code yJ6_bitCount_0f7a4 cJ6_bitCount_0f7a4 1 (some .int), Cond.constant RJ6 265 (1431655765), Cond.constant RJ6 266 (858993459), Cond.constant RJ6 267 (252645135), Cond.methodLink RX2 34 yX2_goOn, Cond.instanceMethod yX2_goOn, Cond.selects RX2 yX2_goOn yX2_goOn, Cond.code yX2_goOn cX2_goOn 8 none, Cond.fieldLink RX2 50 "PenniesAway$Realm" "holders" "I", Cond.fieldLink RX2 53 "PenniesAway$Realm" "towns" "[I", Cond.methodLink RX2 42 yX5_distance, Cond.methodLink RX2 46 yX2_comeHome, Cond.instanceMethod yX2_comeHome, Cond.selects RX2 yX2_comeHome yX2_comeHome, Cond.code yX2_comeHome cX2_comeHome 3 none, Cond.methodLink RX2 56 arraycopyName, Cond.methodLink RX8 232 yX5_savedByTour, Cond.instanceMethod yX5_savedByTour, Cond.selects RX5 yX5_savedByTour yX5_savedByTour]
def wsL_law_r35 : List Cond := [Cond.code yX5_savedByTour cX5_savedByTour 6 (some .int), Cond.methodLink RX8 235 yX2_stop, Cond.instanceMethod yX2_stop, Cond.selects RX2 yX2_stop yX2_stop, Cond.code yX2_stop cX2_stop 2 (some .int), Cond.methodLink RL 96 yX9_tour, Cond.instanceMethod yX9_tour, Cond.selects RX9 yX9_tour yX9_tour, Cond.code yX9_tour cX9_tour 6 (some .int), Cond.methodLink RX9 259 yX9_layTour, Cond.instanceMethod yX9_layTour, Cond.selects RX9 yX9_layTour yX9_layTour, Cond.code yX9_layTour cX9_layTour 7 (some .int), Cond.methodLink RX9 253 yX9_daysOf, Cond.instanceMethod yX9_daysOf, Cond.selects RX9 yX9_daysOf yX9_daysOf, Cond.code yX9_daysOf cX9_daysOf 5 (some .int), Cond.methodLink RX9 256 yX9_nextOrder, Cond.instanceMethod yX9_nextOrder, Cond.selects RX9 yX9_nextOrder yX9_nextOrder, Cond.code yX9_nextOrder cX9_nextOrder 7 (some .boolean), Cond.methodLink RX9 262 yX9_savedBy, Cond.instanceMethod yX9_savedBy, Cond.selects RX9 yX9_savedBy yX9_savedBy]
def wsL_law_r36 : List Cond := [Cond.code yX9_savedBy cX9_savedBy 7 (some .int), Cond.methodLink RL 97 yX8_mint, Cond.instanceMethod yX8_mint, Cond.selects RX8 yX8_mint yX8_mint, Cond.code yX8_mint cX8_mint 3 (some .int), Cond.methodLink RX8 238 yX5_bestSecondMint, Cond.instanceMethod yX5_bestSecondMint, Cond.selects RX5 yX5_bestSecondMint yX5_bestSecondMint, Cond.code yX5_bestSecondMint cX5_bestSecondMint 3 (some .int), Cond.methodLink RX5 115 yX5_lateWithMint, Cond.instanceMethod yX5_lateWithMint, Cond.selects RX5 yX5_lateWithMint yX5_lateWithMint, Cond.code yX5_lateWithMint cX5_lateWithMint 4 (some .int), Cond.methodLink RX8 241 yX5_lateWithMint, Cond.methodLink RL 100 yX9_mint, Cond.instanceMethod yX9_mint, Cond.selects RX9 yX9_mint yX9_mint, Cond.code yX9_mint cX9_mint 4 (some .int), Cond.methodLink RX9 265 yX9_lateWith, Cond.instanceMethod yX9_lateWith, Cond.selects RX9 yX9_lateWith yX9_lateWith, Cond.code yX9_lateWith cX9_lateWith 7 (some .int), Cond.methodLink RL 101 yX8_sounds, Cond.instanceMethod yX8_sounds]
def wsL_law_r37 : List Cond := [Cond.selects RX8 yX8_sounds yX8_sounds, Cond.code yX8_sounds cX8_sounds 3 (some .int), Cond.methodLink RX8 244 yX5_soundingIn, Cond.instanceMethod yX5_soundingIn, Cond.selects RX5 yX5_soundingIn yX5_soundingIn, Cond.code yX5_soundingIn cX5_soundingIn 5 (some .int), Cond.methodLink RX5 118 yX5_soundsAfter, Cond.instanceMethod yX5_soundsAfter, Cond.selects RX5 yX5_soundsAfter yX5_soundsAfter, Cond.code yX5_soundsAfter cX5_soundsAfter 3 (some .boolean), Cond.methodLink RL 104 yX9_sounds, Cond.instanceMethod yX9_sounds, Cond.selects RX9 yX9_sounds yX9_sounds, Cond.code yX9_sounds cX9_sounds 7 (some .int), Cond.methodLink RL 105 yX8_ear, Cond.instanceMethod yX8_ear, Cond.selects RX8 yX8_ear yX8_ear, Cond.code yX8_ear cX8_ear 9 (some .int), Cond.methodLink RX8 247 yX8_power, Cond.static yX8_power, Cond.code yX8_power cX8_power 4 (some .int), Cond.methodLink RX8 250 yX8_commonDivisor, Cond.static yX8_commonDivisor, Cond.code yX8_commonDivisor cX8_commonDivisor 6 (some .int)]
def wsL_law_r38 : List Cond := [Cond.methodLink RX8 282 Lib.Math.max.name, Cond.static Lib.Math.max.name, Cond.code Lib.Math.max.name Lib.Math.max.code 2 (some .int), Cond.methodLink RL 108 yX9_ear, Cond.instanceMethod yX9_ear, Cond.selects RX9 yX9_ear yX9_ear, Cond.code yX9_ear cX9_ear 11 (some .int), Cond.constantLong RX9 268 (3), Cond.methodLink RX9 270 yX9_timesOf, Cond.static yX9_timesOf, Cond.code yX9_timesOf cX9_timesOf 4 (some .int), Cond.methodLink RL 109 yX8_image, Cond.instanceMethod yX8_image, Cond.selects RX8 yX8_image yX8_image, Cond.code yX8_image cX8_image 2 (some .int), Cond.methodLink RX8 253 yX5_takeFrom, Cond.instanceMethod yX5_takeFrom, Cond.selects RX5 yX5_takeFrom yX5_takeFrom, Cond.code yX5_takeFrom cX5_takeFrom 2 none, Cond.methodLink RX5 45 arraycopyName, Cond.methodLink RL 112 yX9_image, Cond.instanceMethod yX9_image, Cond.selects RX9 yX9_image yX9_image, Cond.code yX9_image cX9_image 3 (some .int)]
def wsL_law_r39 : List Cond := [Cond.methodLink RL 113 yX8_restore, Cond.instanceMethod yX8_restore, Cond.selects RX8 yX8_restore yX8_restore, Cond.code yX8_restore cX8_restore 2 (some .int), Cond.methodLink RL 116 yX9_restore, Cond.instanceMethod yX9_restore, Cond.selects RX9 yX9_restore yX9_restore, Cond.code yX9_restore cX9_restore 3 (some .int), Cond.methodLink RL 117 yX8_kind, Cond.instanceMethod yX8_kind, Cond.selects RX8 yX8_kind yX8_kind, Cond.code yX8_kind cX8_kind 2 (some .int), Cond.fieldLink RX8 257 "PenniesAway$Realm" "kinds" "[I", Cond.methodLink RL 120 yX9_kind, Cond.instanceMethod yX9_kind, Cond.selects RX9 yX9_kind yX9_kind, Cond.code yX9_kind cX9_kind 2 (some .int), Cond.methodLink RL 121 yX8_as, Cond.instanceMethod yX8_as, Cond.selects RX8 yX8_as yX8_as, Cond.code yX8_as cX8_as 3 (some .int), Cond.methodLink RX8 262 yX3_isOne, Cond.static yX3_isOne, Cond.initialized RX3]
def wsL_law_r40 : List Cond := [Cond.code yX3_isOne cX3_isOne 4 (some .boolean), Cond.methodLink RX3 19 yX3_nextOf, Cond.static yX3_nextOf, Cond.code yX3_nextOf cX3_nextOf 1 (some .int), Cond.fieldLink RX3 15 "PenniesAway$Kinds" "NEXT" "[I", Cond.methodLink RL 124 yX9_as, Cond.instanceMethod yX9_as, Cond.selects RX9 yX9_as yX9_as, Cond.code yX9_as cX9_as 3 (some .int), Cond.constantLong RX9 273 (5), Cond.methodLink RX9 275 yX9_isOf, Cond.static yX9_isOf, Cond.code yX9_isOf cX9_isOf 2 (some .boolean), Cond.methodLink RL 125 yX8_ask, Cond.instanceMethod yX8_ask, Cond.selects RX8 yX8_ask yX8_ask, Cond.code yX8_ask cX8_ask 3 (some .int), Cond.methodLink RX8 265 yX1_answer, Cond.instanceMethod yX1_answer, Cond.selects RX1 yX1_answer yX1_answer, Cond.code yX1_answer cX1_answer 4 (some .int), Cond.fieldLink RX1 31 "PenniesAway$Realm" "kinds" "[I", Cond.methodLink RX1 36 yX5_about, Cond.methodLink RX1 40 yX5_spanOf]
def wsL_law_r41 : List Cond := [Cond.methodLink RX1 44 yX1_bodyFor, Cond.instanceMethod yX1_bodyFor, Cond.selects RX1 yX1_bodyFor yX1_bodyFor, Cond.code yX1_bodyFor cX1_bodyFor 5 (some .int), Cond.fieldLink RX1 55 "PenniesAway$Asker" "SIZE_BODIES" "[I", Cond.fieldLink RX1 58 "PenniesAway$Asker" "MARK_BODIES" "[I", Cond.methodLink RX1 66 Lib.Math.max.name, Cond.methodLink RX1 63 yX3_nextOf, Cond.methodLink RX1 47 yX1_begin, Cond.instanceMethod yX1_begin, Cond.selects RX1 yX1_begin yX1_begin, Cond.code yX1_begin cX1_begin 4 (some .int), Cond.methodLink RX1 71 yX1_note, Cond.instanceMethod yX1_note, Cond.selects RX1 yX1_note yX1_note, Cond.code yX1_note cX1_note 2 none, Cond.methodLink RL 128 yX9_ask, Cond.instanceMethod yX9_ask, Cond.selects RX9 yX9_ask yX9_ask, Cond.code yX9_ask cX9_ask 3 (some .int), Cond.fieldLink RX9 279 "PenniesAwayModel" "traced" "I", Cond.methodLink RX9 294 yX9_sizeOf, Cond.instanceMethod yX9_sizeOf, Cond.selects RX9 yX9_sizeOf yX9_sizeOf]
def wsL_law_r42 : List Cond := [Cond.code yX9_sizeOf cX9_sizeOf 4 (some .int), Cond.methodLink RX9 288 yX9_forgedSize, Cond.instanceMethod yX9_forgedSize, Cond.selects RX9 yX9_forgedSize yX9_forgedSize, Cond.code yX9_forgedSize cX9_forgedSize 2 (some .int), Cond.methodLink RX9 282 yX9_began, Cond.instanceMethod yX9_began, Cond.selects RX9 yX9_began yX9_began, Cond.code yX9_began cX9_began 2 none, Cond.methodLink RX9 285 yX9_plainSize, Cond.instanceMethod yX9_plainSize, Cond.selects RX9 yX9_plainSize yX9_plainSize, Cond.code yX9_plainSize cX9_plainSize 2 (some .int), Cond.methodLink RX9 291 yX9_markOf, Cond.instanceMethod yX9_markOf, Cond.selects RX9 yX9_markOf yX9_markOf, Cond.code yX9_markOf cX9_markOf 4 (some .int), Cond.methodLink RL 129 yX8_trace, Cond.instanceMethod yX8_trace, Cond.selects RX8 yX8_trace yX8_trace, Cond.code yX8_trace cX8_trace 2 (some .int), Cond.methodLink RX8 269 yX1_noted, Cond.instanceMethod yX1_noted, Cond.selects RX1 yX1_noted yX1_noted]
def wsL_law_r43 : List Cond := [Cond.code yX1_noted cX1_noted 2 (some .int), Cond.constant RX1 54 (-1000000), Cond.methodLink RL 132 yX9_trace, Cond.instanceMethod yX9_trace, Cond.selects RX9 yX9_trace yX9_trace, Cond.code yX9_trace cX9_trace 2 (some .int), Cond.methodLink RL 133 yX8_count, Cond.instanceMethod yX8_count, Cond.selects RX8 yX8_count yX8_count, Cond.code yX8_count cX8_count 2 (some .int), Cond.methodLink RX8 272 yX8_rowsThere, Cond.instanceMethod yX8_rowsThere, Cond.selects RX8 yX8_rowsThere yX8_rowsThere, Cond.code yX8_rowsThere cX8_rowsThere 3 (some .int), Cond.methodLink RX8 275 yX5_howMany, Cond.instanceMethod yX5_howMany, Cond.selects RX5 yX5_howMany yX5_howMany, Cond.code yX5_howMany cX5_howMany 5 (some .int), Cond.methodLink RL 136 yX9_count, Cond.instanceMethod yX9_count, Cond.selects RX9 yX9_count yX9_count, Cond.code yX9_count cX9_count 4 (some .int), Cond.methodLink RL 137 yX8_status, Cond.instanceMethod yX8_status]
def wsL_law_r44 : List Cond := [Cond.selects RX8 yX8_status yX8_status, Cond.code yX8_status cX8_status 1 (some .int), Cond.methodLink RL 140 yX9_status, Cond.instanceMethod yX9_status, Cond.selects RX9 yX9_status yX9_status, Cond.code yX9_status cX9_status 1 (some .int)]
def wsL_law : List Cond := (wsL_law_r1 ++ (wsL_law_r2 ++ (wsL_law_r3 ++ (wsL_law_r4 ++ (wsL_law_r5 ++ (wsL_law_r6 ++ (wsL_law_r7 ++ (wsL_law_r8 ++ (wsL_law_r9 ++ (wsL_law_r10 ++ (wsL_law_r11 ++ (wsL_law_r12 ++ (wsL_law_r13 ++ (wsL_law_r14 ++ (wsL_law_r15 ++ (wsL_law_r16 ++ (wsL_law_r17 ++ (wsL_law_r18 ++ (wsL_law_r19 ++ (wsL_law_r20 ++ (wsL_law_r21 ++ (wsL_law_r22 ++ (wsL_law_r23 ++ (wsL_law_r24 ++ (wsL_law_r25 ++ (wsL_law_r26 ++ (wsL_law_r27 ++ (wsL_law_r28 ++ (wsL_law_r29 ++ (wsL_law_r30 ++ (wsL_law_r31 ++ (wsL_law_r32 ++ (wsL_law_r33 ++ (wsL_law_r34 ++ (wsL_law_r35 ++ (wsL_law_r36 ++ (wsL_law_r37 ++ (wsL_law_r38 ++ (wsL_law_r39 ++ (wsL_law_r40 ++ (wsL_law_r41 ++ (wsL_law_r42 ++ (wsL_law_r43 ++ wsL_law_r44))))))))))))))))))))))))))))))))))))))))))) ++ wsX80 ++ wsX90 ++ wsX40 ++ wsX00 ++ wsX20 ++ wsX10 ++ wsX50 ++ wsX60 ++ wsX70 ++ ([] : List Cond)
abbrev vwCl : List vw_C := [(RX0, TX0, 3), (RX1, TX1, 6), (RX2, TX2, 4), (RX4, TX4, 4), (RX5, TX5, 8), (RX6, TX6, 3), (RX7, TX7, 6), (RX8, TX8, 11), (RX9, TX9, 26)]
end
section
theorem dX9_init_0 : decode cX9_init 0 = .ok (.aload_n 0, 1) := by decide +kernel
theorem dX9_init_1 : decode cX9_init 1 = .ok (.invokespecial 1, 3) := by decide +kernel
theorem dX9_init_4 : decode cX9_init 4 = .ok (.aload_n 0, 1) := by decide +kernel
theorem dX9_init_5 : decode cX9_init 5 = .ok (.bipush 8, 2) := by decide +kernel
theorem dX9_init_7 : decode cX9_init 7 = .ok (.newarray .int, 2) := by decide +kernel
theorem dX9_init_9 : decode cX9_init 9 = .ok (.dup, 1) := by decide +kernel
theorem dX9_init_10 : decode cX9_init 10 = .ok (.iconst 0, 1) := by decide +kernel
theorem dX9_init_11 : decode cX9_init 11 = .ok (.iconst (-1), 1) := by decide +kernel
theorem dX9_init_12 : decode cX9_init 12 = .ok (.iastore, 1) := by decide +kernel
theorem dX9_init_13 : decode cX9_init 13 = .ok (.dup, 1) := by decide +kernel
theorem dX9_init_14 : decode cX9_init 14 = .ok (.iconst 1, 1) := by decide +kernel
theorem dX9_init_15 : decode cX9_init 15 = .ok (.iconst (-1), 1) := by decide +kernel
theorem dX9_init_16 : decode cX9_init 16 = .ok (.iastore, 1) := by decide +kernel
theorem dX9_init_17 : decode cX9_init 17 = .ok (.dup, 1) := by decide +kernel
theorem dX9_init_18 : decode cX9_init 18 = .ok (.iconst 2, 1) := by decide +kernel
theorem dX9_init_19 : decode cX9_init 19 = .ok (.iconst (-1), 1) := by decide +kernel
theorem dX9_init_20 : decode cX9_init 20 = .ok (.iastore, 1) := by decide +kernel
theorem dX9_init_21 : decode cX9_init 21 = .ok (.dup, 1) := by decide +kernel
theorem dX9_init_22 : decode cX9_init 22 = .ok (.iconst 3, 1) := by decide +kernel
theorem dX9_init_23 : decode cX9_init 23 = .ok (.iconst (-1), 1) := by decide +kernel
theorem dX9_init_24 : decode cX9_init 24 = .ok (.iastore, 1) := by decide +kernel
theorem dX9_init_25 : decode cX9_init 25 = .ok (.dup, 1) := by decide +kernel
theorem dX9_init_26 : decode cX9_init 26 = .ok (.iconst 4, 1) := by decide +kernel
theorem dX9_init_27 : decode cX9_init 27 = .ok (.iconst (-1), 1) := by decide +kernel
theorem dX9_init_28 : decode cX9_init 28 = .ok (.iastore, 1) := by decide +kernel
theorem dX9_init_29 : decode cX9_init 29 = .ok (.dup, 1) := by decide +kernel
theorem dX9_init_30 : decode cX9_init 30 = .ok (.iconst 5, 1) := by decide +kernel
theorem dX9_init_31 : decode cX9_init 31 = .ok (.iconst (-1), 1) := by decide +kernel
theorem dX9_init_32 : decode cX9_init 32 = .ok (.iastore, 1) := by decide +kernel
theorem dX9_init_33 : decode cX9_init 33 = .ok (.dup, 1) := by decide +kernel
theorem dX9_init_34 : decode cX9_init 34 = .ok (.bipush 6, 2) := by decide +kernel
theorem dX9_init_36 : decode cX9_init 36 = .ok (.iconst (-1), 1) := by decide +kernel
theorem dX9_init_37 : decode cX9_init 37 = .ok (.iastore, 1) := by decide +kernel
theorem dX9_init_38 : decode cX9_init 38 = .ok (.dup, 1) := by decide +kernel
theorem dX9_init_39 : decode cX9_init 39 = .ok (.bipush 7, 2) := by decide +kernel
theorem dX9_init_41 : decode cX9_init 41 = .ok (.iconst (-1), 1) := by decide +kernel
theorem dX9_init_42 : decode cX9_init 42 = .ok (.iastore, 1) := by decide +kernel
theorem dX9_init_43 : decode cX9_init 43 = .ok (.putfield 7, 3) := by decide +kernel
theorem dX9_init_46 : decode cX9_init 46 = .ok (.aload_n 0, 1) := by decide +kernel
theorem dX9_init_47 : decode cX9_init 47 = .ok (.bipush 8, 2) := by decide +kernel
theorem dX9_init_49 : decode cX9_init 49 = .ok (.newarray .int, 2) := by decide +kernel
theorem dX9_init_51 : decode cX9_init 51 = .ok (.putfield 13, 3) := by decide +kernel
theorem dX9_init_54 : decode cX9_init 54 = .ok (.aload_n 0, 1) := by decide +kernel
theorem dX9_init_55 : decode cX9_init 55 = .ok (.sipush 320, 3) := by decide +kernel
theorem dX9_init_58 : decode cX9_init 58 = .ok (.newarray .int, 2) := by decide +kernel
theorem dX9_init_60 : decode cX9_init 60 = .ok (.putfield 16, 3) := by decide +kernel
theorem dX9_init_63 : decode cX9_init 63 = .ok (.aload_n 0, 1) := by decide +kernel
theorem dX9_init_64 : decode cX9_init 64 = .ok (.sipush 147, 3) := by decide +kernel
theorem dX9_init_67 : decode cX9_init 67 = .ok (.newarray .int, 2) := by decide +kernel
theorem dX9_init_69 : decode cX9_init 69 = .ok (.putfield 19, 3) := by decide +kernel
theorem dX9_init_72 : decode cX9_init 72 = .ok (.aload_n 0, 1) := by decide +kernel
theorem dX9_init_73 : decode cX9_init 73 = .ok (.sipush 147, 3) := by decide +kernel
theorem dX9_init_76 : decode cX9_init 76 = .ok (.newarray .int, 2) := by decide +kernel
theorem dX9_init_78 : decode cX9_init 78 = .ok (.putfield 22, 3) := by decide +kernel
theorem dX9_init_81 : decode cX9_init 81 = .ok (.aload_n 0, 1) := by decide +kernel
theorem dX9_init_82 : decode cX9_init 82 = .ok (.sipush 3528, 3) := by decide +kernel
theorem dX9_init_85 : decode cX9_init 85 = .ok (.newarray .int, 2) := by decide +kernel
theorem dX9_init_87 : decode cX9_init 87 = .ok (.putfield 25, 3) := by decide +kernel
theorem dX9_init_90 : decode cX9_init 90 = .ok (.aload_n 0, 1) := by decide +kernel
theorem dX9_init_91 : decode cX9_init 91 = .ok (.sipush 500, 3) := by decide +kernel
theorem dX9_init_94 : decode cX9_init 94 = .ok (.newarray .int, 2) := by decide +kernel
theorem dX9_init_96 : decode cX9_init 96 = .ok (.putfield 28, 3) := by decide +kernel
theorem dX9_init_99 : decode cX9_init 99 = .ok (.aload_n 0, 1) := by decide +kernel
theorem dX9_init_100 : decode cX9_init 100 = .ok (.bipush 6, 2) := by decide +kernel
theorem dX9_init_102 : decode cX9_init 102 = .ok (.newarray .int, 2) := by decide +kernel
theorem dX9_init_104 : decode cX9_init 104 = .ok (.putfield 31, 3) := by decide +kernel
theorem dX9_init_107 : decode cX9_init 107 = .ok (.aload_n 0, 1) := by decide +kernel
theorem dX9_init_108 : decode cX9_init 108 = .ok (.bipush 6, 2) := by decide +kernel
theorem dX9_init_110 : decode cX9_init 110 = .ok (.newarray .int, 2) := by decide +kernel
theorem dX9_init_112 : decode cX9_init 112 = .ok (.putfield 34, 3) := by decide +kernel
theorem dX9_init_115 : decode cX9_init 115 = .ok (.aload_n 0, 1) := by decide +kernel
theorem dX9_init_116 : decode cX9_init 116 = .ok (.iconst 2, 1) := by decide +kernel
theorem dX9_init_117 : decode cX9_init 117 = .ok (.newarray .boolean, 2) := by decide +kernel
theorem dX9_init_119 : decode cX9_init 119 = .ok (.putfield 37, 3) := by decide +kernel
theorem dX9_init_122 : decode cX9_init 122 = .ok (.aload_n 0, 1) := by decide +kernel
theorem dX9_init_123 : decode cX9_init 123 = .ok (.sipush 294, 3) := by decide +kernel
theorem dX9_init_126 : decode cX9_init 126 = .ok (.newarray .int, 2) := by decide +kernel
theorem dX9_init_128 : decode cX9_init 128 = .ok (.putfield 41, 3) := by decide +kernel
theorem dX9_init_131 : decode cX9_init 131 = .ok (.aload_n 0, 1) := by decide +kernel
theorem dX9_init_132 : decode cX9_init 132 = .ok (.bipush 16, 2) := by decide +kernel
theorem dX9_init_134 : decode cX9_init 134 = .ok (.newarray .int, 2) := by decide +kernel
theorem dX9_init_136 : decode cX9_init 136 = .ok (.putfield 44, 3) := by decide +kernel
theorem dX9_init_139 : decode cX9_init 139 = .ok (.return_, 1) := by decide +kernel
theorem dX9_in_0 : decode cX9_in 0 = .ok (.lload_n 0, 1) := by decide +kernel
theorem dX9_in_1 : decode cX9_in 1 = .ok (.lload_n 2, 1) := by decide +kernel
theorem dX9_in_2 : decode cX9_in 2 = .ok (.lcmp, 1) := by decide +kernel
theorem dX9_in_3 : decode cX9_in 3 = .ok (.ifCond .lt 14, 3) := by decide +kernel
theorem dX9_in_6 : decode cX9_in 6 = .ok (.lload_n 0, 1) := by decide +kernel
theorem dX9_in_7 : decode cX9_in 7 = .ok (.lload 4, 2) := by decide +kernel
theorem dX9_in_9 : decode cX9_in 9 = .ok (.lcmp, 1) := by decide +kernel
theorem dX9_in_10 : decode cX9_in 10 = .ok (.ifCond .gt 7, 3) := by decide +kernel
theorem dX9_in_13 : decode cX9_in 13 = .ok (.iconst 1, 1) := by decide +kernel
theorem dX9_in_14 : decode cX9_in 14 = .ok (.goto 4, 3) := by decide +kernel
theorem dX9_in_17 : decode cX9_in 17 = .ok (.iconst 0, 1) := by decide +kernel
theorem dX9_in_18 : decode cX9_in 18 = .ok (.ireturn, 1) := by decide +kernel
theorem dX9_finding_0 : decode cX9_finding 0 = .ok (.aload_n 0, 1) := by decide +kernel
theorem dX9_finding_1 : decode cX9_finding 1 = .ok (.iload_n 1, 1) := by decide +kernel
theorem dX9_finding_2 : decode cX9_finding 2 = .ok (.putfield 51, 3) := by decide +kernel
theorem dX9_finding_5 : decode cX9_finding 5 = .ok (.ldc 54, 2) := by decide +kernel
theorem dX9_finding_7 : decode cX9_finding 7 = .ok (.iload_n 1, 1) := by decide +kernel
theorem dX9_finding_8 : decode cX9_finding 8 = .ok (.isub, 1) := by decide +kernel
theorem dX9_finding_9 : decode cX9_finding 9 = .ok (.ireturn, 1) := by decide +kernel
set_option maxRecDepth 20000 in
theorem ggX9_isRow_X9_in : GoodIn wsX9_isRow wsX9_in := goodIn_r _ [5] (by decide +kernel) (by decide +kernel)
set_option maxRecDepth 20000 in
theorem gX9_isRow_X9_in : GoodIn wsX9_isRow (va_wsS RX9 57 yX9_in wsX9_in) := goodIn_app (goodIn_of _ (by decide +kernel)) ggX9_isRow_X9_in
theorem dX9_isRow_0 : decode cX9_isRow 0 = .ok (.iload_n 0, 1) := by decide +kernel
theorem dX9_isRow_1 : decode cX9_isRow 1 = .ok (.i2l, 1) := by decide +kernel
theorem dX9_isRow_2 : decode cX9_isRow 2 = .ok (.lconst 0, 1) := by decide +kernel
theorem dX9_isRow_3 : decode cX9_isRow 3 = .ok (.ldc2_w 55, 3) := by decide +kernel
theorem dX9_isRow_6 : decode cX9_isRow 6 = .ok (.invokestatic 57, 3) := by decide +kernel
theorem dX9_isRow_9 : decode cX9_isRow 9 = .ok (.ireturn, 1) := by decide +kernel
set_option maxRecDepth 20000 in
theorem ggX9_row_X9_isRow : GoodIn wsX9_row wsX9_isRow := goodIn_r _ [11, 12, 13, 14, 10, 15] (by decide +kernel) (by decide +kernel)
set_option maxRecDepth 20000 in
theorem gX9_row_X9_isRow : GoodIn wsX9_row (va_wsS RX9 61 yX9_isRow wsX9_isRow) := goodIn_app (goodIn_of _ (by decide +kernel)) ggX9_row_X9_isRow
set_option maxRecDepth 20000 in
theorem ggX9_row_X9_in : GoodIn wsX9_row wsX9_in := goodIn_r _ [15] (by decide +kernel) (by decide +kernel)
set_option maxRecDepth 20000 in
theorem gX9_row_X9_in : GoodIn wsX9_row (va_wsS RX9 57 yX9_in wsX9_in) := goodIn_app (goodIn_of _ (by decide +kernel)) ggX9_row_X9_in
set_option maxRecDepth 20000 in
theorem ggX9_row_X9_finding : GoodIn wsX9_row wsX9_finding := goodIn_r _ [19, 4, 20, 21, 22, 23, 24, 25, 26, 27, 28, 29, 30, 31, 32, 33, 34, 35, 36, 37, 38, 39, 40, 41, 42, 43, 44, 45, 46] (by decide +kernel) (by decide +kernel)
set_option maxRecDepth 20000 in
theorem gX9_row_X9_finding : GoodIn wsX9_row (wsV RX9 68 RX9 yX9_finding wsX9_finding) := goodIn_app (goodIn_of _ (by decide +kernel)) ggX9_row_X9_finding
theorem dX9_row_0 : decode cX9_row 0 = .ok (.aload_n 0, 1) := by decide +kernel
theorem dX9_row_1 : decode cX9_row 1 = .ok (.iconst 0, 1) := by decide +kernel
theorem dX9_row_2 : decode cX9_row 2 = .ok (.putfield 47, 3) := by decide +kernel
theorem dX9_row_5 : decode cX9_row 5 = .ok (.iload_n 1, 1) := by decide +kernel
theorem dX9_row_6 : decode cX9_row 6 = .ok (.invokestatic 61, 3) := by decide +kernel
theorem dX9_row_9 : decode cX9_row 9 = .ok (.ifCond .eq 21, 3) := by decide +kernel
theorem dX9_row_12 : decode cX9_row 12 = .ok (.iload_n 2, 1) := by decide +kernel
theorem dX9_row_13 : decode cX9_row 13 = .ok (.i2l, 1) := by decide +kernel
theorem dX9_row_14 : decode cX9_row 14 = .ok (.lconst 0, 1) := by decide +kernel
theorem dX9_row_15 : decode cX9_row 15 = .ok (.ldc2_w 65, 3) := by decide +kernel
theorem dX9_row_18 : decode cX9_row 18 = .ok (.invokestatic 57, 3) := by decide +kernel
theorem dX9_row_21 : decode cX9_row 21 = .ok (.ifCond .eq 9, 3) := by decide +kernel
theorem dX9_row_24 : decode cX9_row 24 = .ok (.iload_n 3, 1) := by decide +kernel
theorem dX9_row_25 : decode cX9_row 25 = .ok (.bipush 40, 2) := by decide +kernel
theorem dX9_row_27 : decode cX9_row 27 = .ok (.if_icmp .le 6, 3) := by decide +kernel
theorem dX9_row_30 : decode cX9_row 30 = .ok (.ldc 67, 2) := by decide +kernel
theorem dX9_row_32 : decode cX9_row 32 = .ok (.ireturn, 1) := by decide +kernel
theorem dX9_row_33 : decode cX9_row 33 = .ok (.aload_n 0, 1) := by decide +kernel
theorem dX9_row_34 : decode cX9_row 34 = .ok (.iconst 0, 1) := by decide +kernel
theorem dX9_row_35 : decode cX9_row 35 = .ok (.putfield 51, 3) := by decide +kernel
theorem dX9_row_38 : decode cX9_row 38 = .ok (.iload_n 3, 1) := by decide +kernel
theorem dX9_row_39 : decode cX9_row 39 = .ok (.ifCond .ge 9, 3) := by decide +kernel
theorem dX9_row_42 : decode cX9_row 42 = .ok (.aload_n 0, 1) := by decide +kernel
theorem dX9_row_43 : decode cX9_row 43 = .ok (.iconst 4, 1) := by decide +kernel
theorem dX9_row_44 : decode cX9_row 44 = .ok (.invokevirtual 68, 3) := by decide +kernel
theorem dX9_row_47 : decode cX9_row 47 = .ok (.ireturn, 1) := by decide +kernel
theorem dX9_row_48 : decode cX9_row 48 = .ok (.aload_n 0, 1) := by decide +kernel
theorem dX9_row_49 : decode cX9_row 49 = .ok (.getfield 7, 3) := by decide +kernel
theorem dX9_row_52 : decode cX9_row 52 = .ok (.iload_n 1, 1) := by decide +kernel
theorem dX9_row_53 : decode cX9_row 53 = .ok (.iload_n 2, 1) := by decide +kernel
theorem dX9_row_54 : decode cX9_row 54 = .ok (.iastore, 1) := by decide +kernel
theorem dX9_row_55 : decode cX9_row 55 = .ok (.aload_n 0, 1) := by decide +kernel
theorem dX9_row_56 : decode cX9_row 56 = .ok (.getfield 13, 3) := by decide +kernel
theorem dX9_row_59 : decode cX9_row 59 = .ok (.iload_n 1, 1) := by decide +kernel
theorem dX9_row_60 : decode cX9_row 60 = .ok (.iload_n 3, 1) := by decide +kernel
theorem dX9_row_61 : decode cX9_row 61 = .ok (.iastore, 1) := by decide +kernel
theorem dX9_row_62 : decode cX9_row 62 = .ok (.iconst 0, 1) := by decide +kernel
theorem dX9_row_63 : decode cX9_row 63 = .ok (.istore 4, 2) := by decide +kernel
theorem dX9_row_65 : decode cX9_row 65 = .ok (.iload 4, 2) := by decide +kernel
theorem dX9_row_67 : decode cX9_row 67 = .ok (.bipush 40, 2) := by decide +kernel
theorem dX9_row_69 : decode cX9_row 69 = .ok (.if_icmp .ge 22, 3) := by decide +kernel
theorem dX9_row_72 : decode cX9_row 72 = .ok (.aload_n 0, 1) := by decide +kernel
theorem dX9_row_73 : decode cX9_row 73 = .ok (.getfield 16, 3) := by decide +kernel
theorem dX9_row_76 : decode cX9_row 76 = .ok (.bipush 40, 2) := by decide +kernel
theorem dX9_row_78 : decode cX9_row 78 = .ok (.iload_n 1, 1) := by decide +kernel
theorem dX9_row_79 : decode cX9_row 79 = .ok (.imul, 1) := by decide +kernel
theorem dX9_row_80 : decode cX9_row 80 = .ok (.iload 4, 2) := by decide +kernel
theorem dX9_row_82 : decode cX9_row 82 = .ok (.iadd, 1) := by decide +kernel
theorem dX9_row_83 : decode cX9_row 83 = .ok (.iconst 0, 1) := by decide +kernel
theorem dX9_row_84 : decode cX9_row 84 = .ok (.iastore, 1) := by decide +kernel
theorem dX9_row_85 : decode cX9_row 85 = .ok (.iinc 4 1, 3) := by decide +kernel
theorem dX9_row_88 : decode cX9_row 88 = .ok (.goto (-23), 3) := by decide +kernel
theorem dX9_row_91 : decode cX9_row 91 = .ok (.iload_n 3, 1) := by decide +kernel
theorem dX9_row_92 : decode cX9_row 92 = .ok (.ireturn, 1) := by decide +kernel
set_option maxRecDepth 20000 in
theorem ggX9_set_X9_isRow : GoodIn wsX9_set wsX9_isRow := goodIn_r _ [10, 11, 12, 13, 9, 14] (by decide +kernel) (by decide +kernel)
set_option maxRecDepth 20000 in
theorem gX9_set_X9_isRow : GoodIn wsX9_set (va_wsS RX9 61 yX9_isRow wsX9_isRow) := goodIn_app (goodIn_of _ (by decide +kernel)) ggX9_set_X9_isRow
set_option maxRecDepth 20000 in
theorem ggX9_set_X9_finding : GoodIn wsX9_set wsX9_finding := goodIn_r _ [18, 3, 19, 20, 21, 22, 23, 24, 25, 26, 27, 28, 29, 30, 31, 32, 33, 34, 35, 36, 37, 38, 39, 40, 41, 42, 43, 44, 45] (by decide +kernel) (by decide +kernel)
set_option maxRecDepth 20000 in
theorem gX9_set_X9_finding : GoodIn wsX9_set (wsV RX9 68 RX9 yX9_finding wsX9_finding) := goodIn_app (goodIn_of _ (by decide +kernel)) ggX9_set_X9_finding
set_option maxRecDepth 20000 in
theorem ggX9_set_X9_in : GoodIn wsX9_set wsX9_in := goodIn_r _ [14] (by decide +kernel) (by decide +kernel)
set_option maxRecDepth 20000 in
theorem gX9_set_X9_in : GoodIn wsX9_set (va_wsS RX9 57 yX9_in wsX9_in) := goodIn_app (goodIn_of _ (by decide +kernel)) ggX9_set_X9_in
theorem dX9_set_0 : decode cX9_set 0 = .ok (.aload_n 0, 1) := by decide +kernel
theorem dX9_set_1 : decode cX9_set 1 = .ok (.iconst 0, 1) := by decide +kernel
theorem dX9_set_2 : decode cX9_set 2 = .ok (.putfield 47, 3) := by decide +kernel
theorem dX9_set_5 : decode cX9_set 5 = .ok (.iload_n 1, 1) := by decide +kernel
theorem dX9_set_6 : decode cX9_set 6 = .ok (.invokestatic 61, 3) := by decide +kernel
theorem dX9_set_9 : decode cX9_set 9 = .ok (.ifCond .ne 6, 3) := by decide +kernel
theorem dX9_set_12 : decode cX9_set 12 = .ok (.ldc 67, 2) := by decide +kernel
theorem dX9_set_14 : decode cX9_set 14 = .ok (.ireturn, 1) := by decide +kernel
theorem dX9_set_15 : decode cX9_set 15 = .ok (.aload_n 0, 1) := by decide +kernel
theorem dX9_set_16 : decode cX9_set 16 = .ok (.iconst 0, 1) := by decide +kernel
theorem dX9_set_17 : decode cX9_set 17 = .ok (.putfield 51, 3) := by decide +kernel
theorem dX9_set_20 : decode cX9_set 20 = .ok (.aload_n 0, 1) := by decide +kernel
theorem dX9_set_21 : decode cX9_set 21 = .ok (.getfield 7, 3) := by decide +kernel
theorem dX9_set_24 : decode cX9_set 24 = .ok (.iload_n 1, 1) := by decide +kernel
theorem dX9_set_25 : decode cX9_set 25 = .ok (.iaload, 1) := by decide +kernel
theorem dX9_set_26 : decode cX9_set 26 = .ok (.ifCond .ge 9, 3) := by decide +kernel
theorem dX9_set_29 : decode cX9_set 29 = .ok (.aload_n 0, 1) := by decide +kernel
theorem dX9_set_30 : decode cX9_set 30 = .ok (.iconst 1, 1) := by decide +kernel
theorem dX9_set_31 : decode cX9_set 31 = .ok (.invokevirtual 68, 3) := by decide +kernel
theorem dX9_set_34 : decode cX9_set 34 = .ok (.ireturn, 1) := by decide +kernel
theorem dX9_set_35 : decode cX9_set 35 = .ok (.iload_n 2, 1) := by decide +kernel
theorem dX9_set_36 : decode cX9_set 36 = .ok (.i2l, 1) := by decide +kernel
theorem dX9_set_37 : decode cX9_set 37 = .ok (.lconst 0, 1) := by decide +kernel
theorem dX9_set_38 : decode cX9_set 38 = .ok (.aload_n 0, 1) := by decide +kernel
theorem dX9_set_39 : decode cX9_set 39 = .ok (.getfield 13, 3) := by decide +kernel
theorem dX9_set_42 : decode cX9_set 42 = .ok (.iload_n 1, 1) := by decide +kernel
theorem dX9_set_43 : decode cX9_set 43 = .ok (.iaload, 1) := by decide +kernel
theorem dX9_set_44 : decode cX9_set 44 = .ok (.iconst 1, 1) := by decide +kernel
theorem dX9_set_45 : decode cX9_set 45 = .ok (.isub, 1) := by decide +kernel
theorem dX9_set_46 : decode cX9_set 46 = .ok (.i2l, 1) := by decide +kernel
theorem dX9_set_47 : decode cX9_set 47 = .ok (.invokestatic 57, 3) := by decide +kernel
theorem dX9_set_50 : decode cX9_set 50 = .ok (.ifCond .ne 9, 3) := by decide +kernel
theorem dX9_set_53 : decode cX9_set 53 = .ok (.aload_n 0, 1) := by decide +kernel
theorem dX9_set_54 : decode cX9_set 54 = .ok (.iconst 2, 1) := by decide +kernel
theorem dX9_set_55 : decode cX9_set 55 = .ok (.invokevirtual 68, 3) := by decide +kernel
theorem dX9_set_58 : decode cX9_set 58 = .ok (.ireturn, 1) := by decide +kernel
theorem dX9_set_59 : decode cX9_set 59 = .ok (.aload_n 0, 1) := by decide +kernel
theorem dX9_set_60 : decode cX9_set 60 = .ok (.getfield 16, 3) := by decide +kernel
theorem dX9_set_63 : decode cX9_set 63 = .ok (.bipush 40, 2) := by decide +kernel
theorem dX9_set_65 : decode cX9_set 65 = .ok (.iload_n 1, 1) := by decide +kernel
theorem dX9_set_66 : decode cX9_set 66 = .ok (.imul, 1) := by decide +kernel
theorem dX9_set_67 : decode cX9_set 67 = .ok (.iload_n 2, 1) := by decide +kernel
theorem dX9_set_68 : decode cX9_set 68 = .ok (.iadd, 1) := by decide +kernel
theorem dX9_set_69 : decode cX9_set 69 = .ok (.aload_n 0, 1) := by decide +kernel
theorem dX9_set_70 : decode cX9_set 70 = .ok (.getfield 7, 3) := by decide +kernel
theorem dX9_set_73 : decode cX9_set 73 = .ok (.iload_n 1, 1) := by decide +kernel
theorem dX9_set_74 : decode cX9_set 74 = .ok (.iaload, 1) := by decide +kernel
theorem dX9_set_75 : decode cX9_set 75 = .ok (.ifCond .ne 8, 3) := by decide +kernel
theorem dX9_set_78 : decode cX9_set 78 = .ok (.iload_n 3, 1) := by decide +kernel
theorem dX9_set_79 : decode cX9_set 79 = .ok (.i2b, 1) := by decide +kernel
theorem dX9_set_80 : decode cX9_set 80 = .ok (.goto 19, 3) := by decide +kernel
theorem dX9_set_83 : decode cX9_set 83 = .ok (.aload_n 0, 1) := by decide +kernel
theorem dX9_set_84 : decode cX9_set 84 = .ok (.getfield 7, 3) := by decide +kernel
theorem dX9_set_87 : decode cX9_set 87 = .ok (.iload_n 1, 1) := by decide +kernel
theorem dX9_set_88 : decode cX9_set 88 = .ok (.iaload, 1) := by decide +kernel
theorem dX9_set_89 : decode cX9_set 89 = .ok (.iconst 1, 1) := by decide +kernel
theorem dX9_set_90 : decode cX9_set 90 = .ok (.if_icmp .ne 8, 3) := by decide +kernel
theorem dX9_set_93 : decode cX9_set 93 = .ok (.iload_n 3, 1) := by decide +kernel
theorem dX9_set_94 : decode cX9_set 94 = .ok (.i2s, 1) := by decide +kernel
theorem dX9_set_95 : decode cX9_set 95 = .ok (.goto 4, 3) := by decide +kernel
theorem dX9_set_98 : decode cX9_set 98 = .ok (.iload_n 3, 1) := by decide +kernel
theorem dX9_set_99 : decode cX9_set 99 = .ok (.iastore, 1) := by decide +kernel
theorem dX9_set_100 : decode cX9_set 100 = .ok (.aload_n 0, 1) := by decide +kernel
theorem dX9_set_101 : decode cX9_set 101 = .ok (.getfield 16, 3) := by decide +kernel
theorem dX9_set_104 : decode cX9_set 104 = .ok (.bipush 40, 2) := by decide +kernel
theorem dX9_set_106 : decode cX9_set 106 = .ok (.iload_n 1, 1) := by decide +kernel
theorem dX9_set_107 : decode cX9_set 107 = .ok (.imul, 1) := by decide +kernel
theorem dX9_set_108 : decode cX9_set 108 = .ok (.iload_n 2, 1) := by decide +kernel
theorem dX9_set_109 : decode cX9_set 109 = .ok (.iadd, 1) := by decide +kernel
theorem dX9_set_110 : decode cX9_set 110 = .ok (.iaload, 1) := by decide +kernel
theorem dX9_set_111 : decode cX9_set 111 = .ok (.ireturn, 1) := by decide +kernel
set_option maxRecDepth 20000 in
theorem ggX9_copy_X9_isRow : GoodIn wsX9_copy wsX9_isRow := goodIn_r _ [10, 11, 12, 13, 9, 14] (by decide +kernel) (by decide +kernel)
set_option maxRecDepth 20000 in
theorem gX9_copy_X9_isRow : GoodIn wsX9_copy (va_wsS RX9 61 yX9_isRow wsX9_isRow) := goodIn_app (goodIn_of _ (by decide +kernel)) ggX9_copy_X9_isRow
set_option maxRecDepth 20000 in
theorem ggX9_copy_X9_finding : GoodIn wsX9_copy wsX9_finding := goodIn_r _ [18, 3, 19, 20, 21, 22, 23, 24, 25, 26, 27, 28, 29, 30, 31, 32, 33, 34, 35, 36, 37, 38, 39, 40, 41, 42, 43, 44, 45] (by decide +kernel) (by decide +kernel)
set_option maxRecDepth 20000 in
theorem gX9_copy_X9_finding : GoodIn wsX9_copy (wsV RX9 68 RX9 yX9_finding wsX9_finding) := goodIn_app (goodIn_of _ (by decide +kernel)) ggX9_copy_X9_finding
theorem dX9_copy_0 : decode cX9_copy 0 = .ok (.aload_n 0, 1) := by decide +kernel
theorem dX9_copy_1 : decode cX9_copy 1 = .ok (.iconst 0, 1) := by decide +kernel
theorem dX9_copy_2 : decode cX9_copy 2 = .ok (.putfield 47, 3) := by decide +kernel
theorem dX9_copy_5 : decode cX9_copy 5 = .ok (.iload_n 1, 1) := by decide +kernel
theorem dX9_copy_6 : decode cX9_copy 6 = .ok (.invokestatic 61, 3) := by decide +kernel
theorem dX9_copy_9 : decode cX9_copy 9 = .ok (.ifCond .eq 10, 3) := by decide +kernel
theorem dX9_copy_12 : decode cX9_copy 12 = .ok (.iload_n 3, 1) := by decide +kernel
theorem dX9_copy_13 : decode cX9_copy 13 = .ok (.invokestatic 61, 3) := by decide +kernel
theorem dX9_copy_16 : decode cX9_copy 16 = .ok (.ifCond .ne 6, 3) := by decide +kernel
theorem dX9_copy_19 : decode cX9_copy 19 = .ok (.ldc 67, 2) := by decide +kernel
theorem dX9_copy_21 : decode cX9_copy 21 = .ok (.ireturn, 1) := by decide +kernel
theorem dX9_copy_22 : decode cX9_copy 22 = .ok (.aload_n 0, 1) := by decide +kernel
theorem dX9_copy_23 : decode cX9_copy 23 = .ok (.iconst 0, 1) := by decide +kernel
theorem dX9_copy_24 : decode cX9_copy 24 = .ok (.putfield 51, 3) := by decide +kernel
theorem dX9_copy_27 : decode cX9_copy 27 = .ok (.aload_n 0, 1) := by decide +kernel
theorem dX9_copy_28 : decode cX9_copy 28 = .ok (.getfield 7, 3) := by decide +kernel
theorem dX9_copy_31 : decode cX9_copy 31 = .ok (.iload_n 1, 1) := by decide +kernel
theorem dX9_copy_32 : decode cX9_copy 32 = .ok (.iaload, 1) := by decide +kernel
theorem dX9_copy_33 : decode cX9_copy 33 = .ok (.ifCond .lt 12, 3) := by decide +kernel
theorem dX9_copy_36 : decode cX9_copy 36 = .ok (.aload_n 0, 1) := by decide +kernel
theorem dX9_copy_37 : decode cX9_copy 37 = .ok (.getfield 7, 3) := by decide +kernel
theorem dX9_copy_40 : decode cX9_copy 40 = .ok (.iload_n 3, 1) := by decide +kernel
theorem dX9_copy_41 : decode cX9_copy 41 = .ok (.iaload, 1) := by decide +kernel
theorem dX9_copy_42 : decode cX9_copy 42 = .ok (.ifCond .ge 9, 3) := by decide +kernel
theorem dX9_copy_45 : decode cX9_copy 45 = .ok (.aload_n 0, 1) := by decide +kernel
theorem dX9_copy_46 : decode cX9_copy 46 = .ok (.iconst 1, 1) := by decide +kernel
theorem dX9_copy_47 : decode cX9_copy 47 = .ok (.invokevirtual 68, 3) := by decide +kernel
theorem dX9_copy_50 : decode cX9_copy 50 = .ok (.ireturn, 1) := by decide +kernel
theorem dX9_copy_51 : decode cX9_copy 51 = .ok (.aload_n 0, 1) := by decide +kernel
theorem dX9_copy_52 : decode cX9_copy 52 = .ok (.getfield 7, 3) := by decide +kernel
theorem dX9_copy_55 : decode cX9_copy 55 = .ok (.iload_n 1, 1) := by decide +kernel
theorem dX9_copy_56 : decode cX9_copy 56 = .ok (.iaload, 1) := by decide +kernel
theorem dX9_copy_57 : decode cX9_copy 57 = .ok (.aload_n 0, 1) := by decide +kernel
theorem dX9_copy_58 : decode cX9_copy 58 = .ok (.getfield 7, 3) := by decide +kernel
theorem dX9_copy_61 : decode cX9_copy 61 = .ok (.iload_n 3, 1) := by decide +kernel
theorem dX9_copy_62 : decode cX9_copy 62 = .ok (.iaload, 1) := by decide +kernel
theorem dX9_copy_63 : decode cX9_copy 63 = .ok (.if_icmp .eq 9, 3) := by decide +kernel
theorem dX9_copy_66 : decode cX9_copy 66 = .ok (.aload_n 0, 1) := by decide +kernel
theorem dX9_copy_67 : decode cX9_copy 67 = .ok (.iconst 5, 1) := by decide +kernel
theorem dX9_copy_68 : decode cX9_copy 68 = .ok (.invokevirtual 68, 3) := by decide +kernel
theorem dX9_copy_71 : decode cX9_copy 71 = .ok (.ireturn, 1) := by decide +kernel
theorem dX9_copy_72 : decode cX9_copy 72 = .ok (.iload_n 2, 1) := by decide +kernel
theorem dX9_copy_73 : decode cX9_copy 73 = .ok (.ifCond .lt 48, 3) := by decide +kernel
theorem dX9_copy_76 : decode cX9_copy 76 = .ok (.iload 4, 2) := by decide +kernel
theorem dX9_copy_78 : decode cX9_copy 78 = .ok (.ifCond .lt 43, 3) := by decide +kernel
theorem dX9_copy_81 : decode cX9_copy 81 = .ok (.iload 5, 2) := by decide +kernel
theorem dX9_copy_83 : decode cX9_copy 83 = .ok (.ifCond .lt 38, 3) := by decide +kernel
theorem dX9_copy_86 : decode cX9_copy 86 = .ok (.iload_n 2, 1) := by decide +kernel
theorem dX9_copy_87 : decode cX9_copy 87 = .ok (.i2l, 1) := by decide +kernel
theorem dX9_copy_88 : decode cX9_copy 88 = .ok (.iload 5, 2) := by decide +kernel
theorem dX9_copy_90 : decode cX9_copy 90 = .ok (.i2l, 1) := by decide +kernel
theorem dX9_copy_91 : decode cX9_copy 91 = .ok (.ladd, 1) := by decide +kernel
theorem dX9_copy_92 : decode cX9_copy 92 = .ok (.aload_n 0, 1) := by decide +kernel
theorem dX9_copy_93 : decode cX9_copy 93 = .ok (.getfield 13, 3) := by decide +kernel
theorem dX9_copy_96 : decode cX9_copy 96 = .ok (.iload_n 1, 1) := by decide +kernel
theorem dX9_copy_97 : decode cX9_copy 97 = .ok (.iaload, 1) := by decide +kernel
theorem dX9_copy_98 : decode cX9_copy 98 = .ok (.i2l, 1) := by decide +kernel
theorem dX9_copy_99 : decode cX9_copy 99 = .ok (.lcmp, 1) := by decide +kernel
theorem dX9_copy_100 : decode cX9_copy 100 = .ok (.ifCond .gt 21, 3) := by decide +kernel
theorem dX9_copy_103 : decode cX9_copy 103 = .ok (.iload 4, 2) := by decide +kernel
theorem dX9_copy_105 : decode cX9_copy 105 = .ok (.i2l, 1) := by decide +kernel
theorem dX9_copy_106 : decode cX9_copy 106 = .ok (.iload 5, 2) := by decide +kernel
theorem dX9_copy_108 : decode cX9_copy 108 = .ok (.i2l, 1) := by decide +kernel
theorem dX9_copy_109 : decode cX9_copy 109 = .ok (.ladd, 1) := by decide +kernel
theorem dX9_copy_110 : decode cX9_copy 110 = .ok (.aload_n 0, 1) := by decide +kernel
theorem dX9_copy_111 : decode cX9_copy 111 = .ok (.getfield 13, 3) := by decide +kernel
theorem dX9_copy_114 : decode cX9_copy 114 = .ok (.iload_n 3, 1) := by decide +kernel
theorem dX9_copy_115 : decode cX9_copy 115 = .ok (.iaload, 1) := by decide +kernel
theorem dX9_copy_116 : decode cX9_copy 116 = .ok (.i2l, 1) := by decide +kernel
theorem dX9_copy_117 : decode cX9_copy 117 = .ok (.lcmp, 1) := by decide +kernel
theorem dX9_copy_118 : decode cX9_copy 118 = .ok (.ifCond .le 9, 3) := by decide +kernel
theorem dX9_copy_121 : decode cX9_copy 121 = .ok (.aload_n 0, 1) := by decide +kernel
theorem dX9_copy_122 : decode cX9_copy 122 = .ok (.iconst 2, 1) := by decide +kernel
theorem dX9_copy_123 : decode cX9_copy 123 = .ok (.invokevirtual 68, 3) := by decide +kernel
theorem dX9_copy_126 : decode cX9_copy 126 = .ok (.ireturn, 1) := by decide +kernel
theorem dX9_copy_127 : decode cX9_copy 127 = .ok (.iload_n 2, 1) := by decide +kernel
theorem dX9_copy_128 : decode cX9_copy 128 = .ok (.iload 4, 2) := by decide +kernel
theorem dX9_copy_130 : decode cX9_copy 130 = .ok (.if_icmp .lt 7, 3) := by decide +kernel
theorem dX9_copy_133 : decode cX9_copy 133 = .ok (.iconst 1, 1) := by decide +kernel
theorem dX9_copy_134 : decode cX9_copy 134 = .ok (.goto 4, 3) := by decide +kernel
theorem dX9_copy_137 : decode cX9_copy 137 = .ok (.iconst 0, 1) := by decide +kernel
theorem dX9_copy_138 : decode cX9_copy 138 = .ok (.istore 6, 2) := by decide +kernel
theorem dX9_copy_140 : decode cX9_copy 140 = .ok (.iconst 0, 1) := by decide +kernel
theorem dX9_copy_141 : decode cX9_copy 141 = .ok (.istore 7, 2) := by decide +kernel
theorem dX9_copy_143 : decode cX9_copy 143 = .ok (.iload 7, 2) := by decide +kernel
theorem dX9_copy_145 : decode cX9_copy 145 = .ok (.iload 5, 2) := by decide +kernel
theorem dX9_copy_147 : decode cX9_copy 147 = .ok (.if_icmp .ge 57, 3) := by decide +kernel
theorem dX9_copy_150 : decode cX9_copy 150 = .ok (.iload 6, 2) := by decide +kernel
theorem dX9_copy_152 : decode cX9_copy 152 = .ok (.ifCond .eq 8, 3) := by decide +kernel
theorem dX9_copy_155 : decode cX9_copy 155 = .ok (.iload 7, 2) := by decide +kernel
theorem dX9_copy_157 : decode cX9_copy 157 = .ok (.goto 10, 3) := by decide +kernel
theorem dX9_copy_160 : decode cX9_copy 160 = .ok (.iload 5, 2) := by decide +kernel
theorem dX9_copy_162 : decode cX9_copy 162 = .ok (.iconst 1, 1) := by decide +kernel
theorem dX9_copy_163 : decode cX9_copy 163 = .ok (.isub, 1) := by decide +kernel
theorem dX9_copy_164 : decode cX9_copy 164 = .ok (.iload 7, 2) := by decide +kernel
theorem dX9_copy_166 : decode cX9_copy 166 = .ok (.isub, 1) := by decide +kernel
theorem dX9_copy_167 : decode cX9_copy 167 = .ok (.istore 8, 2) := by decide +kernel
theorem dX9_copy_169 : decode cX9_copy 169 = .ok (.aload_n 0, 1) := by decide +kernel
theorem dX9_copy_170 : decode cX9_copy 170 = .ok (.getfield 16, 3) := by decide +kernel
theorem dX9_copy_173 : decode cX9_copy 173 = .ok (.bipush 40, 2) := by decide +kernel
theorem dX9_copy_175 : decode cX9_copy 175 = .ok (.iload_n 3, 1) := by decide +kernel
theorem dX9_copy_176 : decode cX9_copy 176 = .ok (.imul, 1) := by decide +kernel
theorem dX9_copy_177 : decode cX9_copy 177 = .ok (.iload 4, 2) := by decide +kernel
theorem dX9_copy_179 : decode cX9_copy 179 = .ok (.iadd, 1) := by decide +kernel
theorem dX9_copy_180 : decode cX9_copy 180 = .ok (.iload 8, 2) := by decide +kernel
theorem dX9_copy_182 : decode cX9_copy 182 = .ok (.iadd, 1) := by decide +kernel
theorem dX9_copy_183 : decode cX9_copy 183 = .ok (.aload_n 0, 1) := by decide +kernel
theorem dX9_copy_184 : decode cX9_copy 184 = .ok (.getfield 16, 3) := by decide +kernel
theorem dX9_copy_187 : decode cX9_copy 187 = .ok (.bipush 40, 2) := by decide +kernel
theorem dX9_copy_189 : decode cX9_copy 189 = .ok (.iload_n 1, 1) := by decide +kernel
theorem dX9_copy_190 : decode cX9_copy 190 = .ok (.imul, 1) := by decide +kernel
theorem dX9_copy_191 : decode cX9_copy 191 = .ok (.iload_n 2, 1) := by decide +kernel
theorem dX9_copy_192 : decode cX9_copy 192 = .ok (.iadd, 1) := by decide +kernel
theorem dX9_copy_193 : decode cX9_copy 193 = .ok (.iload 8, 2) := by decide +kernel
theorem dX9_copy_195 : decode cX9_copy 195 = .ok (.iadd, 1) := by decide +kernel
theorem dX9_copy_196 : decode cX9_copy 196 = .ok (.iaload, 1) := by decide +kernel
theorem dX9_copy_197 : decode cX9_copy 197 = .ok (.iastore, 1) := by decide +kernel
theorem dX9_copy_198 : decode cX9_copy 198 = .ok (.iinc 7 1, 3) := by decide +kernel
theorem dX9_copy_201 : decode cX9_copy 201 = .ok (.goto (-58), 3) := by decide +kernel
theorem dX9_copy_204 : decode cX9_copy 204 = .ok (.iload 5, 2) := by decide +kernel
theorem dX9_copy_206 : decode cX9_copy 206 = .ok (.ireturn, 1) := by decide +kernel
set_option maxRecDepth 20000 in
theorem ggX9_drop_X9_isRow : GoodIn wsX9_drop wsX9_isRow := goodIn_r _ [9, 10, 11, 12, 8, 13] (by decide +kernel) (by decide +kernel)
set_option maxRecDepth 20000 in
theorem gX9_drop_X9_isRow : GoodIn wsX9_drop (va_wsS RX9 61 yX9_isRow wsX9_isRow) := goodIn_app (goodIn_of _ (by decide +kernel)) ggX9_drop_X9_isRow
set_option maxRecDepth 20000 in
theorem ggX9_drop_X9_finding : GoodIn wsX9_drop wsX9_finding := goodIn_r _ [17, 3, 18, 19, 20, 21, 22, 23, 24, 25, 26, 27, 28, 29, 30, 31, 32, 33, 34, 35, 36, 37, 38, 39, 40, 41, 42, 43, 44] (by decide +kernel) (by decide +kernel)
set_option maxRecDepth 20000 in
theorem gX9_drop_X9_finding : GoodIn wsX9_drop (wsV RX9 68 RX9 yX9_finding wsX9_finding) := goodIn_app (goodIn_of _ (by decide +kernel)) ggX9_drop_X9_finding
theorem dX9_drop_0 : decode cX9_drop 0 = .ok (.aload_n 0, 1) := by decide +kernel
theorem dX9_drop_1 : decode cX9_drop 1 = .ok (.iconst 0, 1) := by decide +kernel
theorem dX9_drop_2 : decode cX9_drop 2 = .ok (.putfield 47, 3) := by decide +kernel
theorem dX9_drop_5 : decode cX9_drop 5 = .ok (.iload_n 1, 1) := by decide +kernel
theorem dX9_drop_6 : decode cX9_drop 6 = .ok (.invokestatic 61, 3) := by decide +kernel
theorem dX9_drop_9 : decode cX9_drop 9 = .ok (.ifCond .ne 6, 3) := by decide +kernel
theorem dX9_drop_12 : decode cX9_drop 12 = .ok (.ldc 67, 2) := by decide +kernel
theorem dX9_drop_14 : decode cX9_drop 14 = .ok (.ireturn, 1) := by decide +kernel
theorem dX9_drop_15 : decode cX9_drop 15 = .ok (.aload_n 0, 1) := by decide +kernel
theorem dX9_drop_16 : decode cX9_drop 16 = .ok (.iconst 0, 1) := by decide +kernel
theorem dX9_drop_17 : decode cX9_drop 17 = .ok (.putfield 51, 3) := by decide +kernel
theorem dX9_drop_20 : decode cX9_drop 20 = .ok (.aload_n 0, 1) := by decide +kernel
theorem dX9_drop_21 : decode cX9_drop 21 = .ok (.getfield 7, 3) := by decide +kernel
theorem dX9_drop_24 : decode cX9_drop 24 = .ok (.iload_n 1, 1) := by decide +kernel
theorem dX9_drop_25 : decode cX9_drop 25 = .ok (.iaload, 1) := by decide +kernel
theorem dX9_drop_26 : decode cX9_drop 26 = .ok (.ifCond .ge 9, 3) := by decide +kernel
theorem dX9_drop_29 : decode cX9_drop 29 = .ok (.aload_n 0, 1) := by decide +kernel
theorem dX9_drop_30 : decode cX9_drop 30 = .ok (.iconst 1, 1) := by decide +kernel
theorem dX9_drop_31 : decode cX9_drop 31 = .ok (.invokevirtual 68, 3) := by decide +kernel
theorem dX9_drop_34 : decode cX9_drop 34 = .ok (.ireturn, 1) := by decide +kernel
theorem dX9_drop_35 : decode cX9_drop 35 = .ok (.aload_n 0, 1) := by decide +kernel
theorem dX9_drop_36 : decode cX9_drop 36 = .ok (.getfield 7, 3) := by decide +kernel
theorem dX9_drop_39 : decode cX9_drop 39 = .ok (.iload_n 1, 1) := by decide +kernel
theorem dX9_drop_40 : decode cX9_drop 40 = .ok (.iconst (-1), 1) := by decide +kernel
theorem dX9_drop_41 : decode cX9_drop 41 = .ok (.iastore, 1) := by decide +kernel
theorem dX9_drop_42 : decode cX9_drop 42 = .ok (.aload_n 0, 1) := by decide +kernel
theorem dX9_drop_43 : decode cX9_drop 43 = .ok (.getfield 13, 3) := by decide +kernel
theorem dX9_drop_46 : decode cX9_drop 46 = .ok (.iload_n 1, 1) := by decide +kernel
theorem dX9_drop_47 : decode cX9_drop 47 = .ok (.iaload, 1) := by decide +kernel
theorem dX9_drop_48 : decode cX9_drop 48 = .ok (.ireturn, 1) := by decide +kernel
set_option maxRecDepth 20000 in
theorem ggX9_feed_X9_in : GoodIn wsX9_feed wsX9_in := goodIn_r _ [11] (by decide +kernel) (by decide +kernel)
set_option maxRecDepth 20000 in
theorem gX9_feed_X9_in : GoodIn wsX9_feed (va_wsS RX9 57 yX9_in wsX9_in) := goodIn_app (goodIn_of _ (by decide +kernel)) ggX9_feed_X9_in
theorem dX9_feed_0 : decode cX9_feed 0 = .ok (.aload_n 0, 1) := by decide +kernel
theorem dX9_feed_1 : decode cX9_feed 1 = .ok (.iconst 0, 1) := by decide +kernel
theorem dX9_feed_2 : decode cX9_feed 2 = .ok (.putfield 47, 3) := by decide +kernel
theorem dX9_feed_5 : decode cX9_feed 5 = .ok (.iload_n 3, 1) := by decide +kernel
theorem dX9_feed_6 : decode cX9_feed 6 = .ok (.i2l, 1) := by decide +kernel
theorem dX9_feed_7 : decode cX9_feed 7 = .ok (.lconst 1, 1) := by decide +kernel
theorem dX9_feed_8 : decode cX9_feed 8 = .ok (.ldc2_w 72, 3) := by decide +kernel
theorem dX9_feed_11 : decode cX9_feed 11 = .ok (.invokestatic 57, 3) := by decide +kernel
theorem dX9_feed_14 : decode cX9_feed 14 = .ok (.ifCond .ne 6, 3) := by decide +kernel
theorem dX9_feed_17 : decode cX9_feed 17 = .ok (.ldc 67, 2) := by decide +kernel
theorem dX9_feed_19 : decode cX9_feed 19 = .ok (.ireturn, 1) := by decide +kernel
theorem dX9_feed_20 : decode cX9_feed 20 = .ok (.aload_n 0, 1) := by decide +kernel
theorem dX9_feed_21 : decode cX9_feed 21 = .ok (.getfield 74, 3) := by decide +kernel
theorem dX9_feed_24 : decode cX9_feed 24 = .ok (.iload_n 3, 1) := by decide +kernel
theorem dX9_feed_25 : decode cX9_feed 25 = .ok (.iadd, 1) := by decide +kernel
theorem dX9_feed_26 : decode cX9_feed 26 = .ok (.sipush 500, 3) := by decide +kernel
theorem dX9_feed_29 : decode cX9_feed 29 = .ok (.if_icmp .le 6, 3) := by decide +kernel
theorem dX9_feed_32 : decode cX9_feed 32 = .ok (.ldc 77, 2) := by decide +kernel
theorem dX9_feed_34 : decode cX9_feed 34 = .ok (.ireturn, 1) := by decide +kernel
theorem dX9_feed_35 : decode cX9_feed 35 = .ok (.iload_n 3, 1) := by decide +kernel
theorem dX9_feed_36 : decode cX9_feed 36 = .ok (.iconst 1, 1) := by decide +kernel
theorem dX9_feed_37 : decode cX9_feed 37 = .ok (.isub, 1) := by decide +kernel
theorem dX9_feed_38 : decode cX9_feed 38 = .ok (.istore 4, 2) := by decide +kernel
theorem dX9_feed_40 : decode cX9_feed 40 = .ok (.iload 4, 2) := by decide +kernel
theorem dX9_feed_42 : decode cX9_feed 42 = .ok (.ifCond .lt 40, 3) := by decide +kernel
theorem dX9_feed_45 : decode cX9_feed 45 = .ok (.aload_n 0, 1) := by decide +kernel
theorem dX9_feed_46 : decode cX9_feed 46 = .ok (.getfield 28, 3) := by decide +kernel
theorem dX9_feed_49 : decode cX9_feed 49 = .ok (.aload_n 0, 1) := by decide +kernel
theorem dX9_feed_50 : decode cX9_feed 50 = .ok (.getfield 74, 3) := by decide +kernel
theorem dX9_feed_53 : decode cX9_feed 53 = .ok (.lload_n 1, 1) := by decide +kernel
theorem dX9_feed_54 : decode cX9_feed 54 = .ok (.bipush 8, 2) := by decide +kernel
theorem dX9_feed_56 : decode cX9_feed 56 = .ok (.iload 4, 2) := by decide +kernel
theorem dX9_feed_58 : decode cX9_feed 58 = .ok (.imul, 1) := by decide +kernel
theorem dX9_feed_59 : decode cX9_feed 59 = .ok (.lshr, 1) := by decide +kernel
theorem dX9_feed_60 : decode cX9_feed 60 = .ok (.ldc2_w 78, 3) := by decide +kernel
theorem dX9_feed_63 : decode cX9_feed 63 = .ok (.land, 1) := by decide +kernel
theorem dX9_feed_64 : decode cX9_feed 64 = .ok (.l2i, 1) := by decide +kernel
theorem dX9_feed_65 : decode cX9_feed 65 = .ok (.iastore, 1) := by decide +kernel
theorem dX9_feed_66 : decode cX9_feed 66 = .ok (.aload_n 0, 1) := by decide +kernel
theorem dX9_feed_67 : decode cX9_feed 67 = .ok (.dup, 1) := by decide +kernel
theorem dX9_feed_68 : decode cX9_feed 68 = .ok (.getfield 74, 3) := by decide +kernel
theorem dX9_feed_71 : decode cX9_feed 71 = .ok (.iconst 1, 1) := by decide +kernel
theorem dX9_feed_72 : decode cX9_feed 72 = .ok (.iadd, 1) := by decide +kernel
theorem dX9_feed_73 : decode cX9_feed 73 = .ok (.putfield 74, 3) := by decide +kernel
theorem dX9_feed_76 : decode cX9_feed 76 = .ok (.iinc 4 (-1), 3) := by decide +kernel
theorem dX9_feed_79 : decode cX9_feed 79 = .ok (.goto (-39), 3) := by decide +kernel
theorem dX9_feed_82 : decode cX9_feed 82 = .ok (.aload_n 0, 1) := by decide +kernel
theorem dX9_feed_83 : decode cX9_feed 83 = .ok (.getfield 74, 3) := by decide +kernel
theorem dX9_feed_86 : decode cX9_feed 86 = .ok (.ireturn, 1) := by decide +kernel
theorem dX9_byteAt_0 : decode cX9_byteAt 0 = .ok (.iload_n 1, 1) := by decide +kernel
theorem dX9_byteAt_1 : decode cX9_byteAt 1 = .ok (.aload_n 0, 1) := by decide +kernel
theorem dX9_byteAt_2 : decode cX9_byteAt 2 = .ok (.getfield 80, 3) := by decide +kernel
theorem dX9_byteAt_5 : decode cX9_byteAt 5 = .ok (.if_icmp .ge 12, 3) := by decide +kernel
theorem dX9_byteAt_8 : decode cX9_byteAt 8 = .ok (.aload_n 0, 1) := by decide +kernel
theorem dX9_byteAt_9 : decode cX9_byteAt 9 = .ok (.getfield 28, 3) := by decide +kernel
theorem dX9_byteAt_12 : decode cX9_byteAt 12 = .ok (.iload_n 1, 1) := by decide +kernel
theorem dX9_byteAt_13 : decode cX9_byteAt 13 = .ok (.iaload, 1) := by decide +kernel
theorem dX9_byteAt_14 : decode cX9_byteAt 14 = .ok (.goto 5, 3) := by decide +kernel
theorem dX9_byteAt_17 : decode cX9_byteAt 17 = .ok (.ldc 83, 2) := by decide +kernel
theorem dX9_byteAt_19 : decode cX9_byteAt 19 = .ok (.ireturn, 1) := by decide +kernel
theorem dX9_isLetter_0 : decode cX9_isLetter 0 = .ok (.iload_n 0, 1) := by decide +kernel
theorem dX9_isLetter_1 : decode cX9_isLetter 1 = .ok (.bipush 97, 2) := by decide +kernel
theorem dX9_isLetter_3 : decode cX9_isLetter 3 = .ok (.if_icmp .lt 13, 3) := by decide +kernel
theorem dX9_isLetter_6 : decode cX9_isLetter 6 = .ok (.iload_n 0, 1) := by decide +kernel
theorem dX9_isLetter_7 : decode cX9_isLetter 7 = .ok (.bipush 122, 2) := by decide +kernel
theorem dX9_isLetter_9 : decode cX9_isLetter 9 = .ok (.if_icmp .gt 7, 3) := by decide +kernel
theorem dX9_isLetter_12 : decode cX9_isLetter 12 = .ok (.iconst 1, 1) := by decide +kernel
theorem dX9_isLetter_13 : decode cX9_isLetter 13 = .ok (.goto 4, 3) := by decide +kernel
theorem dX9_isLetter_16 : decode cX9_isLetter 16 = .ok (.iconst 0, 1) := by decide +kernel
theorem dX9_isLetter_17 : decode cX9_isLetter 17 = .ok (.ireturn, 1) := by decide +kernel
theorem dX9_isFigure_0 : decode cX9_isFigure 0 = .ok (.iload_n 0, 1) := by decide +kernel
theorem dX9_isFigure_1 : decode cX9_isFigure 1 = .ok (.bipush 48, 2) := by decide +kernel
theorem dX9_isFigure_3 : decode cX9_isFigure 3 = .ok (.if_icmp .lt 13, 3) := by decide +kernel
theorem dX9_isFigure_6 : decode cX9_isFigure 6 = .ok (.iload_n 0, 1) := by decide +kernel
theorem dX9_isFigure_7 : decode cX9_isFigure 7 = .ok (.bipush 57, 2) := by decide +kernel
theorem dX9_isFigure_9 : decode cX9_isFigure 9 = .ok (.if_icmp .gt 7, 3) := by decide +kernel
theorem dX9_isFigure_12 : decode cX9_isFigure 12 = .ok (.iconst 1, 1) := by decide +kernel
theorem dX9_isFigure_13 : decode cX9_isFigure 13 = .ok (.goto 4, 3) := by decide +kernel
theorem dX9_isFigure_16 : decode cX9_isFigure 16 = .ok (.iconst 0, 1) := by decide +kernel
theorem dX9_isFigure_17 : decode cX9_isFigure 17 = .ok (.ireturn, 1) := by decide +kernel
set_option maxRecDepth 20000 in
theorem ggX9_next_X9_byteAt : GoodIn wsX9_next wsX9_byteAt := goodIn_r _ [10, 11, 12, 3, 19, 20, 21, 22, 23, 24, 25, 26, 27, 28, 29, 30, 31, 32, 33, 34, 35, 36, 37, 38, 39, 40, 41, 42, 43, 44] (by decide +kernel) (by decide +kernel)
set_option maxRecDepth 20000 in
theorem gX9_next_X9_byteAt : GoodIn wsX9_next (wsV RX9 87 RX9 yX9_byteAt wsX9_byteAt) := goodIn_app (goodIn_of _ (by decide +kernel)) ggX9_next_X9_byteAt
set_option maxRecDepth 20000 in
theorem ggX9_next_X9_isLetter : GoodIn wsX9_next wsX9_isLetter := goodIn_r _ [15] (by decide +kernel) (by decide +kernel)
set_option maxRecDepth 20000 in
theorem gX9_next_X9_isLetter : GoodIn wsX9_next (va_wsS RX9 96 yX9_isLetter wsX9_isLetter) := goodIn_app (goodIn_of _ (by decide +kernel)) ggX9_next_X9_isLetter
set_option maxRecDepth 20000 in
theorem ggX9_next_X9_isFigure : GoodIn wsX9_next wsX9_isFigure := goodIn_r _ [18] (by decide +kernel) (by decide +kernel)
set_option maxRecDepth 20000 in
theorem gX9_next_X9_isFigure : GoodIn wsX9_next (va_wsS RX9 99 yX9_isFigure wsX9_isFigure) := goodIn_app (goodIn_of _ (by decide +kernel)) ggX9_next_X9_isFigure
theorem dX9_next_0 : decode cX9_next 0 = .ok (.aload_n 0, 1) := by decide +kernel
theorem dX9_next_1 : decode cX9_next 1 = .ok (.aload_n 0, 1) := by decide +kernel
theorem dX9_next_2 : decode cX9_next 2 = .ok (.getfield 84, 3) := by decide +kernel
theorem dX9_next_5 : decode cX9_next 5 = .ok (.invokevirtual 87, 3) := by decide +kernel
theorem dX9_next_8 : decode cX9_next 8 = .ok (.bipush 32, 2) := by decide +kernel
theorem dX9_next_10 : decode cX9_next 10 = .ok (.if_icmp .eq 16, 3) := by decide +kernel
theorem dX9_next_13 : decode cX9_next 13 = .ok (.aload_n 0, 1) := by decide +kernel
theorem dX9_next_14 : decode cX9_next 14 = .ok (.aload_n 0, 1) := by decide +kernel
theorem dX9_next_15 : decode cX9_next 15 = .ok (.getfield 84, 3) := by decide +kernel
theorem dX9_next_18 : decode cX9_next 18 = .ok (.invokevirtual 87, 3) := by decide +kernel
theorem dX9_next_21 : decode cX9_next 21 = .ok (.bipush 10, 2) := by decide +kernel
theorem dX9_next_23 : decode cX9_next 23 = .ok (.if_icmp .ne 16, 3) := by decide +kernel
theorem dX9_next_26 : decode cX9_next 26 = .ok (.aload_n 0, 1) := by decide +kernel
theorem dX9_next_27 : decode cX9_next 27 = .ok (.dup, 1) := by decide +kernel
theorem dX9_next_28 : decode cX9_next 28 = .ok (.getfield 84, 3) := by decide +kernel
theorem dX9_next_31 : decode cX9_next 31 = .ok (.iconst 1, 1) := by decide +kernel
theorem dX9_next_32 : decode cX9_next 32 = .ok (.iadd, 1) := by decide +kernel
theorem dX9_next_33 : decode cX9_next 33 = .ok (.putfield 84, 3) := by decide +kernel
theorem dX9_next_36 : decode cX9_next 36 = .ok (.goto (-36), 3) := by decide +kernel
theorem dX9_next_39 : decode cX9_next 39 = .ok (.aload_n 0, 1) := by decide +kernel
theorem dX9_next_40 : decode cX9_next 40 = .ok (.aload_n 0, 1) := by decide +kernel
theorem dX9_next_41 : decode cX9_next 41 = .ok (.getfield 84, 3) := by decide +kernel
theorem dX9_next_44 : decode cX9_next 44 = .ok (.putfield 90, 3) := by decide +kernel
theorem dX9_next_47 : decode cX9_next 47 = .ok (.aload_n 0, 1) := by decide +kernel
theorem dX9_next_48 : decode cX9_next 48 = .ok (.aload_n 0, 1) := by decide +kernel
theorem dX9_next_49 : decode cX9_next 49 = .ok (.getfield 84, 3) := by decide +kernel
theorem dX9_next_52 : decode cX9_next 52 = .ok (.invokevirtual 87, 3) := by decide +kernel
theorem dX9_next_55 : decode cX9_next 55 = .ok (.istore_n 1, 1) := by decide +kernel
theorem dX9_next_56 : decode cX9_next 56 = .ok (.iload_n 1, 1) := by decide +kernel
theorem dX9_next_57 : decode cX9_next 57 = .ok (.ldc 83, 2) := by decide +kernel
theorem dX9_next_59 : decode cX9_next 59 = .ok (.if_icmp .ne 11, 3) := by decide +kernel
theorem dX9_next_62 : decode cX9_next 62 = .ok (.aload_n 0, 1) := by decide +kernel
theorem dX9_next_63 : decode cX9_next 63 = .ok (.iconst 1, 1) := by decide +kernel
theorem dX9_next_64 : decode cX9_next 64 = .ok (.putfield 93, 3) := by decide +kernel
theorem dX9_next_67 : decode cX9_next 67 = .ok (.goto 129, 3) := by decide +kernel
theorem dX9_next_70 : decode cX9_next 70 = .ok (.iload_n 1, 1) := by decide +kernel
theorem dX9_next_71 : decode cX9_next 71 = .ok (.invokestatic 96, 3) := by decide +kernel
theorem dX9_next_74 : decode cX9_next 74 = .ok (.ifCond .eq 38, 3) := by decide +kernel
theorem dX9_next_77 : decode cX9_next 77 = .ok (.aload_n 0, 1) := by decide +kernel
theorem dX9_next_78 : decode cX9_next 78 = .ok (.aload_n 0, 1) := by decide +kernel
theorem dX9_next_79 : decode cX9_next 79 = .ok (.getfield 84, 3) := by decide +kernel
theorem dX9_next_82 : decode cX9_next 82 = .ok (.invokevirtual 87, 3) := by decide +kernel
theorem dX9_next_85 : decode cX9_next 85 = .ok (.invokestatic 96, 3) := by decide +kernel
theorem dX9_next_88 : decode cX9_next 88 = .ok (.ifCond .eq 16, 3) := by decide +kernel
theorem dX9_next_91 : decode cX9_next 91 = .ok (.aload_n 0, 1) := by decide +kernel
theorem dX9_next_92 : decode cX9_next 92 = .ok (.dup, 1) := by decide +kernel
theorem dX9_next_93 : decode cX9_next 93 = .ok (.getfield 84, 3) := by decide +kernel
theorem dX9_next_96 : decode cX9_next 96 = .ok (.iconst 1, 1) := by decide +kernel
theorem dX9_next_97 : decode cX9_next 97 = .ok (.iadd, 1) := by decide +kernel
theorem dX9_next_98 : decode cX9_next 98 = .ok (.putfield 84, 3) := by decide +kernel
theorem dX9_next_101 : decode cX9_next 101 = .ok (.goto (-24), 3) := by decide +kernel
theorem dX9_next_104 : decode cX9_next 104 = .ok (.aload_n 0, 1) := by decide +kernel
theorem dX9_next_105 : decode cX9_next 105 = .ok (.iconst 2, 1) := by decide +kernel
theorem dX9_next_106 : decode cX9_next 106 = .ok (.putfield 93, 3) := by decide +kernel
theorem dX9_next_109 : decode cX9_next 109 = .ok (.goto 87, 3) := by decide +kernel
theorem dX9_next_112 : decode cX9_next 112 = .ok (.iload_n 1, 1) := by decide +kernel
theorem dX9_next_113 : decode cX9_next 113 = .ok (.invokestatic 99, 3) := by decide +kernel
theorem dX9_next_116 : decode cX9_next 116 = .ok (.ifCond .eq 55, 3) := by decide +kernel
theorem dX9_next_119 : decode cX9_next 119 = .ok (.aload_n 0, 1) := by decide +kernel
theorem dX9_next_120 : decode cX9_next 120 = .ok (.aload_n 0, 1) := by decide +kernel
theorem dX9_next_121 : decode cX9_next 121 = .ok (.getfield 84, 3) := by decide +kernel
theorem dX9_next_124 : decode cX9_next 124 = .ok (.invokevirtual 87, 3) := by decide +kernel
theorem dX9_next_127 : decode cX9_next 127 = .ok (.invokestatic 99, 3) := by decide +kernel
theorem dX9_next_130 : decode cX9_next 130 = .ok (.ifCond .eq 16, 3) := by decide +kernel
theorem dX9_next_133 : decode cX9_next 133 = .ok (.aload_n 0, 1) := by decide +kernel
theorem dX9_next_134 : decode cX9_next 134 = .ok (.dup, 1) := by decide +kernel
theorem dX9_next_135 : decode cX9_next 135 = .ok (.getfield 84, 3) := by decide +kernel
theorem dX9_next_138 : decode cX9_next 138 = .ok (.iconst 1, 1) := by decide +kernel
theorem dX9_next_139 : decode cX9_next 139 = .ok (.iadd, 1) := by decide +kernel
theorem dX9_next_140 : decode cX9_next 140 = .ok (.putfield 84, 3) := by decide +kernel
theorem dX9_next_143 : decode cX9_next 143 = .ok (.goto (-24), 3) := by decide +kernel
theorem dX9_next_146 : decode cX9_next 146 = .ok (.aload_n 0, 1) := by decide +kernel
theorem dX9_next_147 : decode cX9_next 147 = .ok (.aload_n 0, 1) := by decide +kernel
theorem dX9_next_148 : decode cX9_next 148 = .ok (.getfield 84, 3) := by decide +kernel
theorem dX9_next_151 : decode cX9_next 151 = .ok (.aload_n 0, 1) := by decide +kernel
theorem dX9_next_152 : decode cX9_next 152 = .ok (.getfield 90, 3) := by decide +kernel
theorem dX9_next_155 : decode cX9_next 155 = .ok (.isub, 1) := by decide +kernel
theorem dX9_next_156 : decode cX9_next 156 = .ok (.iconst 3, 1) := by decide +kernel
theorem dX9_next_157 : decode cX9_next 157 = .ok (.if_icmp .le 7, 3) := by decide +kernel
theorem dX9_next_160 : decode cX9_next 160 = .ok (.iconst 0, 1) := by decide +kernel
theorem dX9_next_161 : decode cX9_next 161 = .ok (.goto 4, 3) := by decide +kernel
theorem dX9_next_164 : decode cX9_next 164 = .ok (.iconst 3, 1) := by decide +kernel
theorem dX9_next_165 : decode cX9_next 165 = .ok (.putfield 93, 3) := by decide +kernel
theorem dX9_next_168 : decode cX9_next 168 = .ok (.goto 28, 3) := by decide +kernel
theorem dX9_next_171 : decode cX9_next 171 = .ok (.aload_n 0, 1) := by decide +kernel
theorem dX9_next_172 : decode cX9_next 172 = .ok (.dup, 1) := by decide +kernel
theorem dX9_next_173 : decode cX9_next 173 = .ok (.getfield 84, 3) := by decide +kernel
theorem dX9_next_176 : decode cX9_next 176 = .ok (.iconst 1, 1) := by decide +kernel
theorem dX9_next_177 : decode cX9_next 177 = .ok (.iadd, 1) := by decide +kernel
theorem dX9_next_178 : decode cX9_next 178 = .ok (.putfield 84, 3) := by decide +kernel
theorem dX9_next_181 : decode cX9_next 181 = .ok (.aload_n 0, 1) := by decide +kernel
theorem dX9_next_182 : decode cX9_next 182 = .ok (.iload_n 1, 1) := by decide +kernel
theorem dX9_next_183 : decode cX9_next 183 = .ok (.bipush 59, 2) := by decide +kernel
theorem dX9_next_185 : decode cX9_next 185 = .ok (.if_icmp .ne 7, 3) := by decide +kernel
theorem dX9_next_188 : decode cX9_next 188 = .ok (.iconst 4, 1) := by decide +kernel
theorem dX9_next_189 : decode cX9_next 189 = .ok (.goto 4, 3) := by decide +kernel
theorem dX9_next_192 : decode cX9_next 192 = .ok (.iconst 0, 1) := by decide +kernel
theorem dX9_next_193 : decode cX9_next 193 = .ok (.putfield 93, 3) := by decide +kernel
theorem dX9_next_196 : decode cX9_next 196 = .ok (.aload_n 0, 1) := by decide +kernel
theorem dX9_next_197 : decode cX9_next 197 = .ok (.aload_n 0, 1) := by decide +kernel
theorem dX9_next_198 : decode cX9_next 198 = .ok (.getfield 84, 3) := by decide +kernel
theorem dX9_next_201 : decode cX9_next 201 = .ok (.putfield 102, 3) := by decide +kernel
theorem dX9_next_204 : decode cX9_next 204 = .ok (.return_, 1) := by decide +kernel
set_option maxRecDepth 20000 in
theorem ggX9_begin_X9_next : GoodIn wsX9_begin wsX9_next := goodIn_r _ [9, 3, 10, 11, 12, 13, 14, 15, 16, 8, 17, 2, 18, 19, 20, 21, 22, 23, 24, 25, 26, 27, 28, 29, 30, 31, 32, 33, 34, 35, 36, 37, 38, 39, 40, 41, 42, 43, 44, 45, 46, 47, 48, 49, 50] (by decide +kernel) (by decide +kernel)
set_option maxRecDepth 20000 in
theorem gX9_begin_X9_next : GoodIn wsX9_begin (wsV RX9 108 RX9 yX9_next wsX9_next) := goodIn_app (goodIn_of _ (by decide +kernel)) ggX9_begin_X9_next
theorem dX9_begin_0 : decode cX9_begin 0 = .ok (.aload_n 0, 1) := by decide +kernel
theorem dX9_begin_1 : decode cX9_begin 1 = .ok (.aload_n 0, 1) := by decide +kernel
theorem dX9_begin_2 : decode cX9_begin 2 = .ok (.getfield 74, 3) := by decide +kernel
theorem dX9_begin_5 : decode cX9_begin 5 = .ok (.putfield 80, 3) := by decide +kernel
theorem dX9_begin_8 : decode cX9_begin 8 = .ok (.aload_n 0, 1) := by decide +kernel
theorem dX9_begin_9 : decode cX9_begin 9 = .ok (.iconst 0, 1) := by decide +kernel
theorem dX9_begin_10 : decode cX9_begin 10 = .ok (.putfield 74, 3) := by decide +kernel
theorem dX9_begin_13 : decode cX9_begin 13 = .ok (.aload_n 0, 1) := by decide +kernel
theorem dX9_begin_14 : decode cX9_begin 14 = .ok (.iconst 0, 1) := by decide +kernel
theorem dX9_begin_15 : decode cX9_begin 15 = .ok (.putfield 84, 3) := by decide +kernel
theorem dX9_begin_18 : decode cX9_begin 18 = .ok (.aload_n 0, 1) := by decide +kernel
theorem dX9_begin_19 : decode cX9_begin 19 = .ok (.iconst 0, 1) := by decide +kernel
theorem dX9_begin_20 : decode cX9_begin 20 = .ok (.putfield 105, 3) := by decide +kernel
theorem dX9_begin_23 : decode cX9_begin 23 = .ok (.aload_n 0, 1) := by decide +kernel
theorem dX9_begin_24 : decode cX9_begin 24 = .ok (.invokevirtual 108, 3) := by decide +kernel
theorem dX9_begin_27 : decode cX9_begin 27 = .ok (.return_, 1) := by decide +kernel
theorem dX9_bad_0 : decode cX9_bad 0 = .ok (.aload_n 0, 1) := by decide +kernel
theorem dX9_bad_1 : decode cX9_bad 1 = .ok (.getfield 105, 3) := by decide +kernel
theorem dX9_bad_4 : decode cX9_bad 4 = .ok (.ifCond .ne 16, 3) := by decide +kernel
theorem dX9_bad_7 : decode cX9_bad 7 = .ok (.aload_n 0, 1) := by decide +kernel
theorem dX9_bad_8 : decode cX9_bad 8 = .ok (.iload_n 1, 1) := by decide +kernel
theorem dX9_bad_9 : decode cX9_bad 9 = .ok (.putfield 105, 3) := by decide +kernel
theorem dX9_bad_12 : decode cX9_bad 12 = .ok (.aload_n 0, 1) := by decide +kernel
theorem dX9_bad_13 : decode cX9_bad 13 = .ok (.aload_n 0, 1) := by decide +kernel
theorem dX9_bad_14 : decode cX9_bad 14 = .ok (.getfield 90, 3) := by decide +kernel
theorem dX9_bad_17 : decode cX9_bad 17 = .ok (.putfield 111, 3) := by decide +kernel
theorem dX9_bad_20 : decode cX9_bad 20 = .ok (.return_, 1) := by decide +kernel
set_option maxRecDepth 20000 in
theorem ggX9_must_X9_bad : GoodIn wsX9_must wsX9_bad := goodIn_r _ [6, 1, 7, 8, 29, 30, 31, 32, 33, 34, 35, 36, 37, 38, 39, 40, 41, 42, 43, 44, 45, 46, 47, 48, 49, 50, 51, 52, 53, 54] (by decide +kernel) (by decide +kernel)
set_option maxRecDepth 20000 in
theorem gX9_must_X9_bad : GoodIn wsX9_must (wsV RX9 114 RX9 yX9_bad wsX9_bad) := goodIn_app (goodIn_of _ (by decide +kernel)) ggX9_must_X9_bad
set_option maxRecDepth 20000 in
theorem ggX9_must_X9_next : GoodIn wsX9_must wsX9_next := goodIn_r _ [12, 13, 7, 14, 15, 16, 17, 18, 19, 5, 20, 21, 22, 23, 24, 25, 26, 27, 28, 29, 30, 31, 32, 33, 34, 35, 36, 37, 38, 39, 40, 41, 42, 43, 44, 45, 46, 47, 48, 49, 50, 51, 52, 53, 54] (by decide +kernel) (by decide +kernel)
set_option maxRecDepth 20000 in
theorem gX9_must_X9_next : GoodIn wsX9_must (wsV RX9 108 RX9 yX9_next wsX9_next) := goodIn_app (goodIn_of _ (by decide +kernel)) ggX9_must_X9_next
end
section
theorem dX9_must_0 : decode cX9_must 0 = .ok (.iload_n 1, 1) := by decide +kernel
theorem dX9_must_1 : decode cX9_must 1 = .ok (.ifCond .ne 8, 3) := by decide +kernel
theorem dX9_must_4 : decode cX9_must 4 = .ok (.aload_n 0, 1) := by decide +kernel
theorem dX9_must_5 : decode cX9_must 5 = .ok (.iconst 1, 1) := by decide +kernel
theorem dX9_must_6 : decode cX9_must 6 = .ok (.invokevirtual 114, 3) := by decide +kernel
theorem dX9_must_9 : decode cX9_must 9 = .ok (.aload_n 0, 1) := by decide +kernel
theorem dX9_must_10 : decode cX9_must 10 = .ok (.getfield 105, 3) := by decide +kernel
theorem dX9_must_13 : decode cX9_must 13 = .ok (.ifCond .ne 7, 3) := by decide +kernel
theorem dX9_must_16 : decode cX9_must 16 = .ok (.aload_n 0, 1) := by decide +kernel
theorem dX9_must_17 : decode cX9_must 17 = .ok (.invokevirtual 108, 3) := by decide +kernel
theorem dX9_must_20 : decode cX9_must 20 = .ok (.return_, 1) := by decide +kernel
theorem dX9_name_0 : decode cX9_name 0 = .ok (.lconst 0, 1) := by decide +kernel
theorem dX9_name_1 : decode cX9_name 1 = .ok (.lstore_n 1, 1) := by decide +kernel
theorem dX9_name_2 : decode cX9_name 2 = .ok (.aload_n 0, 1) := by decide +kernel
theorem dX9_name_3 : decode cX9_name 3 = .ok (.getfield 90, 3) := by decide +kernel
theorem dX9_name_6 : decode cX9_name 6 = .ok (.istore_n 3, 1) := by decide +kernel
theorem dX9_name_7 : decode cX9_name 7 = .ok (.iload_n 3, 1) := by decide +kernel
theorem dX9_name_8 : decode cX9_name 8 = .ok (.aload_n 0, 1) := by decide +kernel
theorem dX9_name_9 : decode cX9_name 9 = .ok (.getfield 102, 3) := by decide +kernel
theorem dX9_name_12 : decode cX9_name 12 = .ok (.if_icmp .ge 44, 3) := by decide +kernel
theorem dX9_name_15 : decode cX9_name 15 = .ok (.aload_n 0, 1) := by decide +kernel
theorem dX9_name_16 : decode cX9_name 16 = .ok (.getfield 93, 3) := by decide +kernel
theorem dX9_name_19 : decode cX9_name 19 = .ok (.iconst 2, 1) := by decide +kernel
theorem dX9_name_20 : decode cX9_name 20 = .ok (.if_icmp .ne 36, 3) := by decide +kernel
theorem dX9_name_23 : decode cX9_name 23 = .ok (.aload_n 0, 1) := by decide +kernel
theorem dX9_name_24 : decode cX9_name 24 = .ok (.getfield 102, 3) := by decide +kernel
theorem dX9_name_27 : decode cX9_name 27 = .ok (.aload_n 0, 1) := by decide +kernel
theorem dX9_name_28 : decode cX9_name 28 = .ok (.getfield 90, 3) := by decide +kernel
theorem dX9_name_31 : decode cX9_name 31 = .ok (.isub, 1) := by decide +kernel
theorem dX9_name_32 : decode cX9_name 32 = .ok (.bipush 8, 2) := by decide +kernel
theorem dX9_name_34 : decode cX9_name 34 = .ok (.if_icmp .ge 22, 3) := by decide +kernel
theorem dX9_name_37 : decode cX9_name 37 = .ok (.lload_n 1, 1) := by decide +kernel
theorem dX9_name_38 : decode cX9_name 38 = .ok (.bipush 8, 2) := by decide +kernel
theorem dX9_name_40 : decode cX9_name 40 = .ok (.lshl, 1) := by decide +kernel
theorem dX9_name_41 : decode cX9_name 41 = .ok (.aload_n 0, 1) := by decide +kernel
theorem dX9_name_42 : decode cX9_name 42 = .ok (.getfield 28, 3) := by decide +kernel
theorem dX9_name_45 : decode cX9_name 45 = .ok (.iload_n 3, 1) := by decide +kernel
theorem dX9_name_46 : decode cX9_name 46 = .ok (.iaload, 1) := by decide +kernel
theorem dX9_name_47 : decode cX9_name 47 = .ok (.i2l, 1) := by decide +kernel
theorem dX9_name_48 : decode cX9_name 48 = .ok (.lor, 1) := by decide +kernel
theorem dX9_name_49 : decode cX9_name 49 = .ok (.lstore_n 1, 1) := by decide +kernel
theorem dX9_name_50 : decode cX9_name 50 = .ok (.iinc 3 1, 3) := by decide +kernel
theorem dX9_name_53 : decode cX9_name 53 = .ok (.goto (-46), 3) := by decide +kernel
theorem dX9_name_56 : decode cX9_name 56 = .ok (.aload_n 0, 1) := by decide +kernel
theorem dX9_name_57 : decode cX9_name 57 = .ok (.getfield 105, 3) := by decide +kernel
theorem dX9_name_60 : decode cX9_name 60 = .ok (.ifCond .ne 7, 3) := by decide +kernel
theorem dX9_name_63 : decode cX9_name 63 = .ok (.lload_n 1, 1) := by decide +kernel
theorem dX9_name_64 : decode cX9_name 64 = .ok (.goto 4, 3) := by decide +kernel
theorem dX9_name_67 : decode cX9_name 67 = .ok (.lconst 0, 1) := by decide +kernel
theorem dX9_name_68 : decode cX9_name 68 = .ok (.lreturn, 1) := by decide +kernel
theorem dX9_figures_0 : decode cX9_figures 0 = .ok (.iconst 0, 1) := by decide +kernel
theorem dX9_figures_1 : decode cX9_figures 1 = .ok (.istore_n 1, 1) := by decide +kernel
theorem dX9_figures_2 : decode cX9_figures 2 = .ok (.aload_n 0, 1) := by decide +kernel
theorem dX9_figures_3 : decode cX9_figures 3 = .ok (.getfield 90, 3) := by decide +kernel
theorem dX9_figures_6 : decode cX9_figures 6 = .ok (.istore_n 2, 1) := by decide +kernel
theorem dX9_figures_7 : decode cX9_figures 7 = .ok (.iload_n 2, 1) := by decide +kernel
theorem dX9_figures_8 : decode cX9_figures 8 = .ok (.aload_n 0, 1) := by decide +kernel
theorem dX9_figures_9 : decode cX9_figures 9 = .ok (.getfield 102, 3) := by decide +kernel
theorem dX9_figures_12 : decode cX9_figures 12 = .ok (.if_icmp .ge 32, 3) := by decide +kernel
theorem dX9_figures_15 : decode cX9_figures 15 = .ok (.aload_n 0, 1) := by decide +kernel
theorem dX9_figures_16 : decode cX9_figures 16 = .ok (.getfield 93, 3) := by decide +kernel
theorem dX9_figures_19 : decode cX9_figures 19 = .ok (.iconst 3, 1) := by decide +kernel
theorem dX9_figures_20 : decode cX9_figures 20 = .ok (.if_icmp .ne 24, 3) := by decide +kernel
theorem dX9_figures_23 : decode cX9_figures 23 = .ok (.bipush 10, 2) := by decide +kernel
theorem dX9_figures_25 : decode cX9_figures 25 = .ok (.iload_n 1, 1) := by decide +kernel
theorem dX9_figures_26 : decode cX9_figures 26 = .ok (.imul, 1) := by decide +kernel
theorem dX9_figures_27 : decode cX9_figures 27 = .ok (.aload_n 0, 1) := by decide +kernel
theorem dX9_figures_28 : decode cX9_figures 28 = .ok (.getfield 28, 3) := by decide +kernel
theorem dX9_figures_31 : decode cX9_figures 31 = .ok (.iload_n 2, 1) := by decide +kernel
theorem dX9_figures_32 : decode cX9_figures 32 = .ok (.iaload, 1) := by decide +kernel
theorem dX9_figures_33 : decode cX9_figures 33 = .ok (.iadd, 1) := by decide +kernel
theorem dX9_figures_34 : decode cX9_figures 34 = .ok (.bipush 48, 2) := by decide +kernel
theorem dX9_figures_36 : decode cX9_figures 36 = .ok (.isub, 1) := by decide +kernel
theorem dX9_figures_37 : decode cX9_figures 37 = .ok (.istore_n 1, 1) := by decide +kernel
theorem dX9_figures_38 : decode cX9_figures 38 = .ok (.iinc 2 1, 3) := by decide +kernel
theorem dX9_figures_41 : decode cX9_figures 41 = .ok (.goto (-34), 3) := by decide +kernel
theorem dX9_figures_44 : decode cX9_figures 44 = .ok (.iload_n 1, 1) := by decide +kernel
theorem dX9_figures_45 : decode cX9_figures 45 = .ok (.ireturn, 1) := by decide +kernel
set_option maxRecDepth 20000 in
theorem ggX9_number_X9_figures : GoodIn wsX9_number wsX9_figures := goodIn_r _ [7, 8, 9, 2, 10, 40, 41, 42, 43, 44, 45, 46, 47, 48, 49, 50, 51, 52, 53, 54, 55, 56, 57, 58, 59, 60, 61, 62, 63, 64, 65] (by decide +kernel) (by decide +kernel)
set_option maxRecDepth 20000 in
theorem gX9_number_X9_figures : GoodIn wsX9_number (wsV RX9 118 RX9 yX9_figures wsX9_figures) := goodIn_app (goodIn_of _ (by decide +kernel)) ggX9_number_X9_figures
set_option maxRecDepth 20000 in
theorem ggX9_number_X9_in : GoodIn wsX9_number wsX9_in := goodIn_r _ [13] (by decide +kernel) (by decide +kernel)
set_option maxRecDepth 20000 in
theorem gX9_number_X9_in : GoodIn wsX9_number (va_wsS RX9 57 yX9_in wsX9_in) := goodIn_app (goodIn_of _ (by decide +kernel)) ggX9_number_X9_in
set_option maxRecDepth 20000 in
theorem ggX9_number_X9_bad : GoodIn wsX9_number wsX9_bad := goodIn_r _ [17, 1, 8, 18, 40, 41, 42, 43, 44, 45, 46, 47, 48, 49, 50, 51, 52, 53, 54, 55, 56, 57, 58, 59, 60, 61, 62, 63, 64, 65] (by decide +kernel) (by decide +kernel)
set_option maxRecDepth 20000 in
theorem gX9_number_X9_bad : GoodIn wsX9_number (wsV RX9 114 RX9 yX9_bad wsX9_bad) := goodIn_app (goodIn_of _ (by decide +kernel)) ggX9_number_X9_bad
set_option maxRecDepth 20000 in
theorem ggX9_number_X9_must : GoodIn wsX9_number wsX9_must := goodIn_r _ [22, 1, 14, 15, 16, 6, 17, 8, 18, 23, 24, 25, 26, 27, 28, 2, 9, 29, 30, 31, 32, 33, 10, 34, 35, 36, 37, 38, 39, 40, 41, 42, 43, 44, 45, 46, 47, 48, 49, 50, 51, 52, 53, 54, 55, 56, 57, 58, 59, 60, 61, 62, 63, 64, 65] (by decide +kernel) (by decide +kernel)
set_option maxRecDepth 20000 in
theorem gX9_number_X9_must : GoodIn wsX9_number (wsV RX9 122 RX9 yX9_must wsX9_must) := goodIn_app (goodIn_of _ (by decide +kernel)) ggX9_number_X9_must
theorem dX9_number_0 : decode cX9_number 0 = .ok (.aload_n 0, 1) := by decide +kernel
theorem dX9_number_1 : decode cX9_number 1 = .ok (.getfield 105, 3) := by decide +kernel
theorem dX9_number_4 : decode cX9_number 4 = .ok (.ifCond .le 5, 3) := by decide +kernel
theorem dX9_number_7 : decode cX9_number 7 = .ok (.iconst 0, 1) := by decide +kernel
theorem dX9_number_8 : decode cX9_number 8 = .ok (.ireturn, 1) := by decide +kernel
theorem dX9_number_9 : decode cX9_number 9 = .ok (.aload_n 0, 1) := by decide +kernel
theorem dX9_number_10 : decode cX9_number 10 = .ok (.invokevirtual 118, 3) := by decide +kernel
theorem dX9_number_13 : decode cX9_number 13 = .ok (.istore_n 3, 1) := by decide +kernel
theorem dX9_number_14 : decode cX9_number 14 = .ok (.aload_n 0, 1) := by decide +kernel
theorem dX9_number_15 : decode cX9_number 15 = .ok (.getfield 93, 3) := by decide +kernel
theorem dX9_number_18 : decode cX9_number 18 = .ok (.iconst 3, 1) := by decide +kernel
theorem dX9_number_19 : decode cX9_number 19 = .ok (.if_icmp .ne 20, 3) := by decide +kernel
theorem dX9_number_22 : decode cX9_number 22 = .ok (.iload_n 3, 1) := by decide +kernel
theorem dX9_number_23 : decode cX9_number 23 = .ok (.i2l, 1) := by decide +kernel
theorem dX9_number_24 : decode cX9_number 24 = .ok (.iload_n 1, 1) := by decide +kernel
theorem dX9_number_25 : decode cX9_number 25 = .ok (.i2l, 1) := by decide +kernel
theorem dX9_number_26 : decode cX9_number 26 = .ok (.iload_n 2, 1) := by decide +kernel
theorem dX9_number_27 : decode cX9_number 27 = .ok (.i2l, 1) := by decide +kernel
theorem dX9_number_28 : decode cX9_number 28 = .ok (.invokestatic 57, 3) := by decide +kernel
theorem dX9_number_31 : decode cX9_number 31 = .ok (.ifCond .ne 8, 3) := by decide +kernel
theorem dX9_number_34 : decode cX9_number 34 = .ok (.aload_n 0, 1) := by decide +kernel
theorem dX9_number_35 : decode cX9_number 35 = .ok (.iconst 2, 1) := by decide +kernel
theorem dX9_number_36 : decode cX9_number 36 = .ok (.invokevirtual 114, 3) := by decide +kernel
theorem dX9_number_39 : decode cX9_number 39 = .ok (.aload_n 0, 1) := by decide +kernel
theorem dX9_number_40 : decode cX9_number 40 = .ok (.aload_n 0, 1) := by decide +kernel
theorem dX9_number_41 : decode cX9_number 41 = .ok (.getfield 93, 3) := by decide +kernel
theorem dX9_number_44 : decode cX9_number 44 = .ok (.iconst 3, 1) := by decide +kernel
theorem dX9_number_45 : decode cX9_number 45 = .ok (.if_icmp .ne 7, 3) := by decide +kernel
theorem dX9_number_48 : decode cX9_number 48 = .ok (.iconst 1, 1) := by decide +kernel
theorem dX9_number_49 : decode cX9_number 49 = .ok (.goto 4, 3) := by decide +kernel
theorem dX9_number_52 : decode cX9_number 52 = .ok (.iconst 0, 1) := by decide +kernel
theorem dX9_number_53 : decode cX9_number 53 = .ok (.invokevirtual 122, 3) := by decide +kernel
theorem dX9_number_56 : decode cX9_number 56 = .ok (.iload_n 3, 1) := by decide +kernel
theorem dX9_number_57 : decode cX9_number 57 = .ok (.ireturn, 1) := by decide +kernel
theorem dX9_kindBy_0 : decode cX9_kindBy 0 = .ok (.lload_n 0, 1) := by decide +kernel
theorem dX9_kindBy_1 : decode cX9_kindBy 1 = .ok (.ldc2_w 126, 3) := by decide +kernel
theorem dX9_kindBy_4 : decode cX9_kindBy 4 = .ok (.lcmp, 1) := by decide +kernel
theorem dX9_kindBy_5 : decode cX9_kindBy 5 = .ok (.ifCond .ne 7, 3) := by decide +kernel
theorem dX9_kindBy_8 : decode cX9_kindBy 8 = .ok (.iconst 2, 1) := by decide +kernel
theorem dX9_kindBy_9 : decode cX9_kindBy 9 = .ok (.goto 53, 3) := by decide +kernel
theorem dX9_kindBy_12 : decode cX9_kindBy 12 = .ok (.lload_n 0, 1) := by decide +kernel
theorem dX9_kindBy_13 : decode cX9_kindBy 13 = .ok (.ldc2_w 128, 3) := by decide +kernel
theorem dX9_kindBy_16 : decode cX9_kindBy 16 = .ok (.lcmp, 1) := by decide +kernel
theorem dX9_kindBy_17 : decode cX9_kindBy 17 = .ok (.ifCond .ne 7, 3) := by decide +kernel
theorem dX9_kindBy_20 : decode cX9_kindBy 20 = .ok (.iconst 1, 1) := by decide +kernel
theorem dX9_kindBy_21 : decode cX9_kindBy 21 = .ok (.goto 41, 3) := by decide +kernel
theorem dX9_kindBy_24 : decode cX9_kindBy 24 = .ok (.lload_n 0, 1) := by decide +kernel
theorem dX9_kindBy_25 : decode cX9_kindBy 25 = .ok (.ldc2_w 130, 3) := by decide +kernel
theorem dX9_kindBy_28 : decode cX9_kindBy 28 = .ok (.lcmp, 1) := by decide +kernel
theorem dX9_kindBy_29 : decode cX9_kindBy 29 = .ok (.ifCond .ne 7, 3) := by decide +kernel
theorem dX9_kindBy_32 : decode cX9_kindBy 32 = .ok (.iconst 3, 1) := by decide +kernel
theorem dX9_kindBy_33 : decode cX9_kindBy 33 = .ok (.goto 29, 3) := by decide +kernel
theorem dX9_kindBy_36 : decode cX9_kindBy 36 = .ok (.lload_n 0, 1) := by decide +kernel
theorem dX9_kindBy_37 : decode cX9_kindBy 37 = .ok (.ldc2_w 132, 3) := by decide +kernel
theorem dX9_kindBy_40 : decode cX9_kindBy 40 = .ok (.lcmp, 1) := by decide +kernel
theorem dX9_kindBy_41 : decode cX9_kindBy 41 = .ok (.ifCond .ne 7, 3) := by decide +kernel
theorem dX9_kindBy_44 : decode cX9_kindBy 44 = .ok (.iconst 5, 1) := by decide +kernel
theorem dX9_kindBy_45 : decode cX9_kindBy 45 = .ok (.goto 17, 3) := by decide +kernel
theorem dX9_kindBy_48 : decode cX9_kindBy 48 = .ok (.lload_n 0, 1) := by decide +kernel
theorem dX9_kindBy_49 : decode cX9_kindBy 49 = .ok (.ldc2_w 134, 3) := by decide +kernel
theorem dX9_kindBy_52 : decode cX9_kindBy 52 = .ok (.lcmp, 1) := by decide +kernel
theorem dX9_kindBy_53 : decode cX9_kindBy 53 = .ok (.ifCond .ne 7, 3) := by decide +kernel
theorem dX9_kindBy_56 : decode cX9_kindBy 56 = .ok (.iconst 4, 1) := by decide +kernel
theorem dX9_kindBy_57 : decode cX9_kindBy 57 = .ok (.goto 5, 3) := by decide +kernel
theorem dX9_kindBy_60 : decode cX9_kindBy 60 = .ok (.ldc 83, 2) := by decide +kernel
theorem dX9_kindBy_62 : decode cX9_kindBy 62 = .ok (.ireturn, 1) := by decide +kernel
set_option maxRecDepth 20000 in
theorem ggX9_mustEnd_X9_must : GoodIn wsX9_mustEnd wsX9_must := goodIn_r _ [7, 1, 8, 9, 10, 6, 11, 12, 13, 14, 15, 16, 17, 18, 19, 2, 20, 21, 22, 23, 24, 25, 26, 27, 28, 29, 30, 31, 32, 33, 34, 35, 36, 37, 38, 39, 40, 41, 42, 43, 44, 45, 46, 47, 48, 49, 50, 51, 52, 53, 54, 55, 56, 57, 58] (by decide +kernel) (by decide +kernel)
set_option maxRecDepth 20000 in
theorem gX9_mustEnd_X9_must : GoodIn wsX9_mustEnd (wsV RX9 122 RX9 yX9_must wsX9_must) := goodIn_app (goodIn_of _ (by decide +kernel)) ggX9_mustEnd_X9_must
theorem dX9_mustEnd_0 : decode cX9_mustEnd 0 = .ok (.aload_n 0, 1) := by decide +kernel
theorem dX9_mustEnd_1 : decode cX9_mustEnd 1 = .ok (.getfield 105, 3) := by decide +kernel
theorem dX9_mustEnd_4 : decode cX9_mustEnd 4 = .ok (.ifCond .ne 20, 3) := by decide +kernel
theorem dX9_mustEnd_7 : decode cX9_mustEnd 7 = .ok (.aload_n 0, 1) := by decide +kernel
theorem dX9_mustEnd_8 : decode cX9_mustEnd 8 = .ok (.aload_n 0, 1) := by decide +kernel
theorem dX9_mustEnd_9 : decode cX9_mustEnd 9 = .ok (.getfield 93, 3) := by decide +kernel
theorem dX9_mustEnd_12 : decode cX9_mustEnd 12 = .ok (.iconst 4, 1) := by decide +kernel
theorem dX9_mustEnd_13 : decode cX9_mustEnd 13 = .ok (.if_icmp .ne 7, 3) := by decide +kernel
theorem dX9_mustEnd_16 : decode cX9_mustEnd 16 = .ok (.iconst 1, 1) := by decide +kernel
theorem dX9_mustEnd_17 : decode cX9_mustEnd 17 = .ok (.goto 4, 3) := by decide +kernel
theorem dX9_mustEnd_20 : decode cX9_mustEnd 20 = .ok (.iconst 0, 1) := by decide +kernel
theorem dX9_mustEnd_21 : decode cX9_mustEnd 21 = .ok (.invokevirtual 122, 3) := by decide +kernel
theorem dX9_mustEnd_24 : decode cX9_mustEnd 24 = .ok (.return_, 1) := by decide +kernel
set_option maxRecDepth 20000 in
theorem ggX9_begins_X9_bad : GoodIn wsX9_begins wsX9_bad := goodIn_r _ [6, 7, 8, 9, 34, 35, 36, 37, 38, 39, 40, 41, 42, 43, 44, 45, 46, 47, 48, 49, 50, 51, 52, 53, 54, 55, 56, 57, 58, 59] (by decide +kernel) (by decide +kernel)
set_option maxRecDepth 20000 in
theorem gX9_begins_X9_bad : GoodIn wsX9_begins (wsV RX9 114 RX9 yX9_bad wsX9_bad) := goodIn_app (goodIn_of _ (by decide +kernel)) ggX9_begins_X9_bad
set_option maxRecDepth 20000 in
theorem ggX9_begins_X9_must : GoodIn wsX9_begins wsX9_must := goodIn_r _ [13, 7, 2, 3, 4, 5, 6, 8, 9, 14, 15, 16, 17, 18, 19, 20, 21, 22, 23, 24, 25, 26, 27, 28, 29, 30, 31, 32, 33, 34, 35, 36, 37, 38, 39, 40, 41, 42, 43, 44, 45, 46, 47, 48, 49, 50, 51, 52, 53, 54, 55, 56, 57, 58, 59] (by decide +kernel) (by decide +kernel)
set_option maxRecDepth 20000 in
theorem gX9_begins_X9_must : GoodIn wsX9_begins (wsV RX9 122 RX9 yX9_must wsX9_must) := goodIn_app (goodIn_of _ (by decide +kernel)) ggX9_begins_X9_must
theorem dX9_begins_0 : decode cX9_begins 0 = .ok (.aload_n 0, 1) := by decide +kernel
theorem dX9_begins_1 : decode cX9_begins 1 = .ok (.getfield 22, 3) := by decide +kernel
theorem dX9_begins_4 : decode cX9_begins 4 = .ok (.iload_n 1, 1) := by decide +kernel
theorem dX9_begins_5 : decode cX9_begins 5 = .ok (.iaload, 1) := by decide +kernel
theorem dX9_begins_6 : decode cX9_begins 6 = .ok (.iload_n 2, 1) := by decide +kernel
theorem dX9_begins_7 : decode cX9_begins 7 = .ok (.if_icmp .ne 8, 3) := by decide +kernel
theorem dX9_begins_10 : decode cX9_begins 10 = .ok (.aload_n 0, 1) := by decide +kernel
theorem dX9_begins_11 : decode cX9_begins 11 = .ok (.iconst 3, 1) := by decide +kernel
theorem dX9_begins_12 : decode cX9_begins 12 = .ok (.invokevirtual 114, 3) := by decide +kernel
theorem dX9_begins_15 : decode cX9_begins 15 = .ok (.aload_n 0, 1) := by decide +kernel
theorem dX9_begins_16 : decode cX9_begins 16 = .ok (.iconst 1, 1) := by decide +kernel
theorem dX9_begins_17 : decode cX9_begins 17 = .ok (.invokevirtual 122, 3) := by decide +kernel
theorem dX9_begins_20 : decode cX9_begins 20 = .ok (.return_, 1) := by decide +kernel
set_option maxRecDepth 20000 in
theorem ggX9_readRoad_X9_begins : GoodIn wsX9_readRoad wsX9_begins := goodIn_r _ [8, 3, 9, 10, 11, 7, 12, 1, 13, 14, 15, 16, 17, 18, 19, 20, 21, 22, 23, 24, 2, 25, 26, 27, 28, 29, 30, 31, 32, 33, 34, 35, 36, 37, 53, 54, 55, 56, 57, 58, 59, 60, 61, 62, 63, 64, 65, 66, 67, 68, 69, 70, 71, 72, 73, 74, 75, 76, 77, 78] (by decide +kernel) (by decide +kernel)
set_option maxRecDepth 20000 in
theorem gX9_readRoad_X9_begins : GoodIn wsX9_readRoad (wsV RX9 136 RX9 yX9_begins wsX9_begins) := goodIn_app (goodIn_of _ (by decide +kernel)) ggX9_readRoad_X9_begins
set_option maxRecDepth 20000 in
theorem ggX9_readRoad_X9_number : GoodIn wsX9_readRoad wsX9_number := goodIn_r _ [41, 1, 2, 42, 43, 44, 7, 45, 13, 25, 31, 46, 47, 48, 9, 10, 11, 12, 14, 15, 16, 17, 18, 19, 20, 21, 22, 23, 24, 26, 27, 28, 29, 30, 32, 33, 34, 35, 36, 37, 53, 54, 55, 56, 57, 58, 59, 60, 61, 62, 63, 64, 65, 66, 67, 68, 69, 70, 71, 72, 73, 74, 75, 76, 77, 78] (by decide +kernel) (by decide +kernel)
set_option maxRecDepth 20000 in
theorem gX9_readRoad_X9_number : GoodIn wsX9_readRoad (wsV RX9 140 RX9 yX9_number wsX9_number) := goodIn_app (goodIn_of _ (by decide +kernel)) ggX9_readRoad_X9_number
set_option maxRecDepth 20000 in
theorem ggX9_readRoad_X9_figures : GoodIn wsX9_readRoad wsX9_figures := goodIn_r _ [45, 13, 25, 2, 31, 53, 54, 55, 56, 57, 58, 59, 60, 61, 62, 63, 64, 65, 66, 67, 68, 69, 70, 71, 72, 73, 74, 75, 76, 77, 78] (by decide +kernel) (by decide +kernel)
set_option maxRecDepth 20000 in
theorem gX9_readRoad_X9_figures : GoodIn wsX9_readRoad (wsV RX9 118 RX9 yX9_figures wsX9_figures) := goodIn_app (goodIn_of _ (by decide +kernel)) ggX9_readRoad_X9_figures
set_option maxRecDepth 20000 in
theorem ggX9_readRoad_X9_bad : GoodIn wsX9_readRoad wsX9_bad := goodIn_r _ [12, 1, 13, 14, 53, 54, 55, 56, 57, 58, 59, 60, 61, 62, 63, 64, 65, 66, 67, 68, 69, 70, 71, 72, 73, 74, 75, 76, 77, 78] (by decide +kernel) (by decide +kernel)
set_option maxRecDepth 20000 in
theorem gX9_readRoad_X9_bad : GoodIn wsX9_readRoad (wsV RX9 114 RX9 yX9_bad wsX9_bad) := goodIn_app (goodIn_of _ (by decide +kernel)) ggX9_readRoad_X9_bad
set_option maxRecDepth 20000 in
theorem ggX9_readRoad_X9_mustEnd : GoodIn wsX9_readRoad wsX9_mustEnd := goodIn_r _ [52, 1, 2, 15, 16, 17, 7, 18, 9, 10, 11, 12, 13, 14, 19, 20, 21, 22, 23, 24, 25, 26, 27, 28, 29, 30, 31, 32, 33, 34, 35, 36, 37, 53, 54, 55, 56, 57, 58, 59, 60, 61, 62, 63, 64, 65, 66, 67, 68, 69, 70, 71, 72, 73, 74, 75, 76, 77, 78] (by decide +kernel) (by decide +kernel)
set_option maxRecDepth 20000 in
theorem gX9_readRoad_X9_mustEnd : GoodIn wsX9_readRoad (wsV RX9 144 RX9 yX9_mustEnd wsX9_mustEnd) := goodIn_app (goodIn_of _ (by decide +kernel)) ggX9_readRoad_X9_mustEnd
theorem dX9_readRoad_0 : decode cX9_readRoad 0 = .ok (.aload_n 0, 1) := by decide +kernel
theorem dX9_readRoad_1 : decode cX9_readRoad 1 = .ok (.iconst 1, 1) := by decide +kernel
theorem dX9_readRoad_2 : decode cX9_readRoad 2 = .ok (.bipush 14, 2) := by decide +kernel
theorem dX9_readRoad_4 : decode cX9_readRoad 4 = .ok (.invokevirtual 136, 3) := by decide +kernel
theorem dX9_readRoad_7 : decode cX9_readRoad 7 = .ok (.aload_n 0, 1) := by decide +kernel
theorem dX9_readRoad_8 : decode cX9_readRoad 8 = .ok (.iconst 0, 1) := by decide +kernel
theorem dX9_readRoad_9 : decode cX9_readRoad 9 = .ok (.bipush 7, 2) := by decide +kernel
theorem dX9_readRoad_11 : decode cX9_readRoad 11 = .ok (.invokevirtual 140, 3) := by decide +kernel
theorem dX9_readRoad_14 : decode cX9_readRoad 14 = .ok (.istore_n 1, 1) := by decide +kernel
theorem dX9_readRoad_15 : decode cX9_readRoad 15 = .ok (.aload_n 0, 1) := by decide +kernel
theorem dX9_readRoad_16 : decode cX9_readRoad 16 = .ok (.getfield 105, 3) := by decide +kernel
theorem dX9_readRoad_19 : decode cX9_readRoad 19 = .ok (.ifCond .ne 24, 3) := by decide +kernel
theorem dX9_readRoad_22 : decode cX9_readRoad 22 = .ok (.aload_n 0, 1) := by decide +kernel
theorem dX9_readRoad_23 : decode cX9_readRoad 23 = .ok (.getfield 93, 3) := by decide +kernel
theorem dX9_readRoad_26 : decode cX9_readRoad 26 = .ok (.iconst 3, 1) := by decide +kernel
theorem dX9_readRoad_27 : decode cX9_readRoad 27 = .ok (.if_icmp .ne 16, 3) := by decide +kernel
theorem dX9_readRoad_30 : decode cX9_readRoad 30 = .ok (.aload_n 0, 1) := by decide +kernel
theorem dX9_readRoad_31 : decode cX9_readRoad 31 = .ok (.invokevirtual 118, 3) := by decide +kernel
theorem dX9_readRoad_34 : decode cX9_readRoad 34 = .ok (.iload_n 1, 1) := by decide +kernel
theorem dX9_readRoad_35 : decode cX9_readRoad 35 = .ok (.if_icmp .ne 8, 3) := by decide +kernel
theorem dX9_readRoad_38 : decode cX9_readRoad 38 = .ok (.aload_n 0, 1) := by decide +kernel
theorem dX9_readRoad_39 : decode cX9_readRoad 39 = .ok (.iconst 2, 1) := by decide +kernel
theorem dX9_readRoad_40 : decode cX9_readRoad 40 = .ok (.invokevirtual 114, 3) := by decide +kernel
theorem dX9_readRoad_43 : decode cX9_readRoad 43 = .ok (.aload_n 0, 1) := by decide +kernel
theorem dX9_readRoad_44 : decode cX9_readRoad 44 = .ok (.iconst 0, 1) := by decide +kernel
theorem dX9_readRoad_45 : decode cX9_readRoad 45 = .ok (.bipush 7, 2) := by decide +kernel
theorem dX9_readRoad_47 : decode cX9_readRoad 47 = .ok (.invokevirtual 140, 3) := by decide +kernel
theorem dX9_readRoad_50 : decode cX9_readRoad 50 = .ok (.istore_n 2, 1) := by decide +kernel
theorem dX9_readRoad_51 : decode cX9_readRoad 51 = .ok (.aload_n 0, 1) := by decide +kernel
theorem dX9_readRoad_52 : decode cX9_readRoad 52 = .ok (.iconst 1, 1) := by decide +kernel
theorem dX9_readRoad_53 : decode cX9_readRoad 53 = .ok (.bipush 90, 2) := by decide +kernel
theorem dX9_readRoad_55 : decode cX9_readRoad 55 = .ok (.invokevirtual 140, 3) := by decide +kernel
theorem dX9_readRoad_58 : decode cX9_readRoad 58 = .ok (.istore_n 3, 1) := by decide +kernel
theorem dX9_readRoad_59 : decode cX9_readRoad 59 = .ok (.aload_n 0, 1) := by decide +kernel
theorem dX9_readRoad_60 : decode cX9_readRoad 60 = .ok (.invokevirtual 144, 3) := by decide +kernel
theorem dX9_readRoad_63 : decode cX9_readRoad 63 = .ok (.aload_n 0, 1) := by decide +kernel
theorem dX9_readRoad_64 : decode cX9_readRoad 64 = .ok (.getfield 105, 3) := by decide +kernel
theorem dX9_readRoad_67 : decode cX9_readRoad 67 = .ok (.ifCond .ne 79, 3) := by decide +kernel
theorem dX9_readRoad_70 : decode cX9_readRoad 70 = .ok (.aload_n 0, 1) := by decide +kernel
theorem dX9_readRoad_71 : decode cX9_readRoad 71 = .ok (.getfield 22, 3) := by decide +kernel
theorem dX9_readRoad_74 : decode cX9_readRoad 74 = .ok (.iconst 5, 1) := by decide +kernel
theorem dX9_readRoad_75 : decode cX9_readRoad 75 = .ok (.bipush 8, 2) := by decide +kernel
theorem dX9_readRoad_77 : decode cX9_readRoad 77 = .ok (.iload_n 1, 1) := by decide +kernel
theorem dX9_readRoad_78 : decode cX9_readRoad 78 = .ok (.imul, 1) := by decide +kernel
theorem dX9_readRoad_79 : decode cX9_readRoad 79 = .ok (.iadd, 1) := by decide +kernel
theorem dX9_readRoad_80 : decode cX9_readRoad 80 = .ok (.iload_n 2, 1) := by decide +kernel
theorem dX9_readRoad_81 : decode cX9_readRoad 81 = .ok (.iadd, 1) := by decide +kernel
theorem dX9_readRoad_82 : decode cX9_readRoad 82 = .ok (.iaload, 1) := by decide +kernel
theorem dX9_readRoad_83 : decode cX9_readRoad 83 = .ok (.iload_n 3, 1) := by decide +kernel
theorem dX9_readRoad_84 : decode cX9_readRoad 84 = .ok (.if_icmp .ge 19, 3) := by decide +kernel
theorem dX9_readRoad_87 : decode cX9_readRoad 87 = .ok (.aload_n 0, 1) := by decide +kernel
theorem dX9_readRoad_88 : decode cX9_readRoad 88 = .ok (.getfield 22, 3) := by decide +kernel
theorem dX9_readRoad_91 : decode cX9_readRoad 91 = .ok (.iconst 5, 1) := by decide +kernel
theorem dX9_readRoad_92 : decode cX9_readRoad 92 = .ok (.bipush 8, 2) := by decide +kernel
theorem dX9_readRoad_94 : decode cX9_readRoad 94 = .ok (.iload_n 1, 1) := by decide +kernel
theorem dX9_readRoad_95 : decode cX9_readRoad 95 = .ok (.imul, 1) := by decide +kernel
theorem dX9_readRoad_96 : decode cX9_readRoad 96 = .ok (.iadd, 1) := by decide +kernel
theorem dX9_readRoad_97 : decode cX9_readRoad 97 = .ok (.iload_n 2, 1) := by decide +kernel
theorem dX9_readRoad_98 : decode cX9_readRoad 98 = .ok (.iadd, 1) := by decide +kernel
theorem dX9_readRoad_99 : decode cX9_readRoad 99 = .ok (.iaload, 1) := by decide +kernel
theorem dX9_readRoad_100 : decode cX9_readRoad 100 = .ok (.goto 4, 3) := by decide +kernel
theorem dX9_readRoad_103 : decode cX9_readRoad 103 = .ok (.iload_n 3, 1) := by decide +kernel
theorem dX9_readRoad_104 : decode cX9_readRoad 104 = .ok (.istore 4, 2) := by decide +kernel
theorem dX9_readRoad_106 : decode cX9_readRoad 106 = .ok (.aload_n 0, 1) := by decide +kernel
theorem dX9_readRoad_107 : decode cX9_readRoad 107 = .ok (.getfield 22, 3) := by decide +kernel
theorem dX9_readRoad_110 : decode cX9_readRoad 110 = .ok (.iconst 5, 1) := by decide +kernel
theorem dX9_readRoad_111 : decode cX9_readRoad 111 = .ok (.bipush 8, 2) := by decide +kernel
theorem dX9_readRoad_113 : decode cX9_readRoad 113 = .ok (.iload_n 1, 1) := by decide +kernel
theorem dX9_readRoad_114 : decode cX9_readRoad 114 = .ok (.imul, 1) := by decide +kernel
theorem dX9_readRoad_115 : decode cX9_readRoad 115 = .ok (.iadd, 1) := by decide +kernel
theorem dX9_readRoad_116 : decode cX9_readRoad 116 = .ok (.iload_n 2, 1) := by decide +kernel
theorem dX9_readRoad_117 : decode cX9_readRoad 117 = .ok (.iadd, 1) := by decide +kernel
theorem dX9_readRoad_118 : decode cX9_readRoad 118 = .ok (.iload 4, 2) := by decide +kernel
theorem dX9_readRoad_120 : decode cX9_readRoad 120 = .ok (.iastore, 1) := by decide +kernel
theorem dX9_readRoad_121 : decode cX9_readRoad 121 = .ok (.aload_n 0, 1) := by decide +kernel
theorem dX9_readRoad_122 : decode cX9_readRoad 122 = .ok (.getfield 22, 3) := by decide +kernel
theorem dX9_readRoad_125 : decode cX9_readRoad 125 = .ok (.iconst 5, 1) := by decide +kernel
theorem dX9_readRoad_126 : decode cX9_readRoad 126 = .ok (.bipush 8, 2) := by decide +kernel
theorem dX9_readRoad_128 : decode cX9_readRoad 128 = .ok (.iload_n 2, 1) := by decide +kernel
theorem dX9_readRoad_129 : decode cX9_readRoad 129 = .ok (.imul, 1) := by decide +kernel
theorem dX9_readRoad_130 : decode cX9_readRoad 130 = .ok (.iadd, 1) := by decide +kernel
theorem dX9_readRoad_131 : decode cX9_readRoad 131 = .ok (.iload_n 1, 1) := by decide +kernel
theorem dX9_readRoad_132 : decode cX9_readRoad 132 = .ok (.iadd, 1) := by decide +kernel
theorem dX9_readRoad_133 : decode cX9_readRoad 133 = .ok (.iload 4, 2) := by decide +kernel
theorem dX9_readRoad_135 : decode cX9_readRoad 135 = .ok (.iastore, 1) := by decide +kernel
theorem dX9_readRoad_136 : decode cX9_readRoad 136 = .ok (.aload_n 0, 1) := by decide +kernel
theorem dX9_readRoad_137 : decode cX9_readRoad 137 = .ok (.getfield 22, 3) := by decide +kernel
theorem dX9_readRoad_140 : decode cX9_readRoad 140 = .ok (.iconst 1, 1) := by decide +kernel
theorem dX9_readRoad_141 : decode cX9_readRoad 141 = .ok (.dup2, 1) := by decide +kernel
theorem dX9_readRoad_142 : decode cX9_readRoad 142 = .ok (.iaload, 1) := by decide +kernel
theorem dX9_readRoad_143 : decode cX9_readRoad 143 = .ok (.iconst 1, 1) := by decide +kernel
theorem dX9_readRoad_144 : decode cX9_readRoad 144 = .ok (.iadd, 1) := by decide +kernel
theorem dX9_readRoad_145 : decode cX9_readRoad 145 = .ok (.iastore, 1) := by decide +kernel
theorem dX9_readRoad_146 : decode cX9_readRoad 146 = .ok (.return_, 1) := by decide +kernel
set_option maxRecDepth 20000 in
theorem ggX9_readHolder_X9_begins : GoodIn wsX9_readHolder wsX9_begins := goodIn_r _ [7, 2, 8, 9, 10, 6, 11, 1, 12, 13, 14, 15, 16, 17, 18, 19, 20, 21, 22, 23, 24, 25, 26, 27, 28, 29, 30, 31, 32, 33, 34, 35, 36, 37, 53, 54, 55, 56, 57, 58, 59, 60, 61, 62, 63, 64, 65, 66, 67, 68, 69, 70, 71, 72, 73, 74, 75, 76, 77, 78] (by decide +kernel) (by decide +kernel)
set_option maxRecDepth 20000 in
theorem gX9_readHolder_X9_begins : GoodIn wsX9_readHolder (wsV RX9 136 RX9 yX9_begins wsX9_begins) := goodIn_app (goodIn_of _ (by decide +kernel)) ggX9_readHolder_X9_begins
set_option maxRecDepth 20000 in
theorem ggX9_readHolder_X9_number : GoodIn wsX9_readHolder wsX9_number := goodIn_r _ [41, 1, 24, 42, 43, 44, 6, 45, 12, 25, 31, 46, 47, 48, 8, 9, 10, 11, 13, 14, 15, 16, 17, 18, 19, 20, 21, 22, 23, 26, 27, 28, 29, 30, 32, 33, 34, 35, 36, 37, 53, 54, 55, 56, 57, 58, 59, 60, 61, 62, 63, 64, 65, 66, 67, 68, 69, 70, 71, 72, 73, 74, 75, 76, 77, 78] (by decide +kernel) (by decide +kernel)
set_option maxRecDepth 20000 in
theorem gX9_readHolder_X9_number : GoodIn wsX9_readHolder (wsV RX9 140 RX9 yX9_number wsX9_number) := goodIn_app (goodIn_of _ (by decide +kernel)) ggX9_readHolder_X9_number
set_option maxRecDepth 20000 in
theorem ggX9_readHolder_X9_mustEnd : GoodIn wsX9_readHolder wsX9_mustEnd := goodIn_r _ [52, 1, 24, 14, 15, 16, 6, 17, 8, 9, 10, 11, 12, 13, 18, 19, 20, 21, 22, 23, 25, 26, 27, 28, 29, 30, 31, 32, 33, 34, 35, 36, 37, 53, 54, 55, 56, 57, 58, 59, 60, 61, 62, 63, 64, 65, 66, 67, 68, 69, 70, 71, 72, 73, 74, 75, 76, 77, 78] (by decide +kernel) (by decide +kernel)
set_option maxRecDepth 20000 in
theorem gX9_readHolder_X9_mustEnd : GoodIn wsX9_readHolder (wsV RX9 144 RX9 yX9_mustEnd wsX9_mustEnd) := goodIn_app (goodIn_of _ (by decide +kernel)) ggX9_readHolder_X9_mustEnd
theorem dX9_readHolder_0 : decode cX9_readHolder 0 = .ok (.aload_n 0, 1) := by decide +kernel
theorem dX9_readHolder_1 : decode cX9_readHolder 1 = .ok (.iconst 2, 1) := by decide +kernel
theorem dX9_readHolder_2 : decode cX9_readHolder 2 = .ok (.bipush 6, 2) := by decide +kernel
theorem dX9_readHolder_4 : decode cX9_readHolder 4 = .ok (.invokevirtual 136, 3) := by decide +kernel
theorem dX9_readHolder_7 : decode cX9_readHolder 7 = .ok (.aload_n 0, 1) := by decide +kernel
theorem dX9_readHolder_8 : decode cX9_readHolder 8 = .ok (.iconst 1, 1) := by decide +kernel
theorem dX9_readHolder_9 : decode cX9_readHolder 9 = .ok (.bipush 7, 2) := by decide +kernel
theorem dX9_readHolder_11 : decode cX9_readHolder 11 = .ok (.invokevirtual 140, 3) := by decide +kernel
theorem dX9_readHolder_14 : decode cX9_readHolder 14 = .ok (.istore_n 1, 1) := by decide +kernel
theorem dX9_readHolder_15 : decode cX9_readHolder 15 = .ok (.aload_n 0, 1) := by decide +kernel
theorem dX9_readHolder_16 : decode cX9_readHolder 16 = .ok (.invokevirtual 144, 3) := by decide +kernel
theorem dX9_readHolder_19 : decode cX9_readHolder 19 = .ok (.aload_n 0, 1) := by decide +kernel
theorem dX9_readHolder_20 : decode cX9_readHolder 20 = .ok (.getfield 105, 3) := by decide +kernel
theorem dX9_readHolder_23 : decode cX9_readHolder 23 = .ok (.ifCond .ne 28, 3) := by decide +kernel
theorem dX9_readHolder_26 : decode cX9_readHolder 26 = .ok (.aload_n 0, 1) := by decide +kernel
theorem dX9_readHolder_27 : decode cX9_readHolder 27 = .ok (.getfield 22, 3) := by decide +kernel
theorem dX9_readHolder_30 : decode cX9_readHolder 30 = .ok (.bipush 69, 2) := by decide +kernel
theorem dX9_readHolder_32 : decode cX9_readHolder 32 = .ok (.aload_n 0, 1) := by decide +kernel
theorem dX9_readHolder_33 : decode cX9_readHolder 33 = .ok (.getfield 22, 3) := by decide +kernel
theorem dX9_readHolder_36 : decode cX9_readHolder 36 = .ok (.iconst 2, 1) := by decide +kernel
theorem dX9_readHolder_37 : decode cX9_readHolder 37 = .ok (.iaload, 1) := by decide +kernel
theorem dX9_readHolder_38 : decode cX9_readHolder 38 = .ok (.iadd, 1) := by decide +kernel
theorem dX9_readHolder_39 : decode cX9_readHolder 39 = .ok (.iload_n 1, 1) := by decide +kernel
theorem dX9_readHolder_40 : decode cX9_readHolder 40 = .ok (.iastore, 1) := by decide +kernel
theorem dX9_readHolder_41 : decode cX9_readHolder 41 = .ok (.aload_n 0, 1) := by decide +kernel
theorem dX9_readHolder_42 : decode cX9_readHolder 42 = .ok (.getfield 22, 3) := by decide +kernel
theorem dX9_readHolder_45 : decode cX9_readHolder 45 = .ok (.iconst 2, 1) := by decide +kernel
theorem dX9_readHolder_46 : decode cX9_readHolder 46 = .ok (.dup2, 1) := by decide +kernel
theorem dX9_readHolder_47 : decode cX9_readHolder 47 = .ok (.iaload, 1) := by decide +kernel
theorem dX9_readHolder_48 : decode cX9_readHolder 48 = .ok (.iconst 1, 1) := by decide +kernel
theorem dX9_readHolder_49 : decode cX9_readHolder 49 = .ok (.iadd, 1) := by decide +kernel
theorem dX9_readHolder_50 : decode cX9_readHolder 50 = .ok (.iastore, 1) := by decide +kernel
theorem dX9_readHolder_51 : decode cX9_readHolder 51 = .ok (.return_, 1) := by decide +kernel
set_option maxRecDepth 20000 in
theorem ggX9_readCoin_X9_begins : GoodIn wsX9_readCoin wsX9_begins := goodIn_r _ [8, 3, 9, 10, 11, 7, 12, 1, 13, 14, 15, 16, 17, 18, 19, 20, 21, 22, 23, 2, 24, 25, 26, 27, 28, 29, 30, 31, 32, 33, 34, 35, 36, 37, 65, 66, 67, 68, 69, 70, 71, 72, 73, 74, 75, 76, 77, 78, 79, 80, 81, 82, 83, 84, 85, 86, 87, 88, 89, 90] (by decide +kernel) (by decide +kernel)
set_option maxRecDepth 20000 in
theorem gX9_readCoin_X9_begins : GoodIn wsX9_readCoin (wsV RX9 136 RX9 yX9_begins wsX9_begins) := goodIn_app (goodIn_of _ (by decide +kernel)) ggX9_readCoin_X9_begins
set_option maxRecDepth 20000 in
theorem ggX9_readCoin_X9_name : GoodIn wsX9_readCoin wsX9_name := goodIn_r _ [41, 13, 25, 24, 31, 1, 65, 66, 67, 68, 69, 70, 71, 72, 73, 74, 75, 76, 77, 78, 79, 80, 81, 82, 83, 84, 85, 86, 87, 88, 89, 90] (by decide +kernel) (by decide +kernel)
set_option maxRecDepth 20000 in
theorem gX9_readCoin_X9_name : GoodIn wsX9_readCoin (wsV RX9 147 RX9 yX9_name wsX9_name) := goodIn_app (goodIn_of _ (by decide +kernel)) ggX9_readCoin_X9_name
set_option maxRecDepth 20000 in
theorem ggX9_readCoin_X9_kindBy : GoodIn wsX9_readCoin wsX9_kindBy := goodIn_r _ [44, 45, 46, 47, 48, 49, 2] (by decide +kernel) (by decide +kernel)
set_option maxRecDepth 20000 in
theorem gX9_readCoin_X9_kindBy : GoodIn wsX9_readCoin (va_wsS RX9 151 yX9_kindBy wsX9_kindBy) := goodIn_app (goodIn_of _ (by decide +kernel)) ggX9_readCoin_X9_kindBy
set_option maxRecDepth 20000 in
theorem ggX9_readCoin_X9_must : GoodIn wsX9_readCoin wsX9_must := goodIn_r _ [18, 1, 9, 10, 11, 7, 12, 13, 14, 19, 20, 21, 22, 23, 2, 24, 25, 26, 27, 28, 29, 30, 31, 32, 33, 34, 35, 36, 37, 65, 66, 67, 68, 69, 70, 71, 72, 73, 74, 75, 76, 77, 78, 79, 80, 81, 82, 83, 84, 85, 86, 87, 88, 89, 90] (by decide +kernel) (by decide +kernel)
set_option maxRecDepth 20000 in
theorem gX9_readCoin_X9_must : GoodIn wsX9_readCoin (wsV RX9 122 RX9 yX9_must wsX9_must) := goodIn_app (goodIn_of _ (by decide +kernel)) ggX9_readCoin_X9_must
set_option maxRecDepth 20000 in
theorem ggX9_readCoin_X9_number : GoodIn wsX9_readCoin wsX9_number := goodIn_r _ [53, 1, 24, 54, 55, 56, 7, 57, 13, 25, 31, 58, 59, 60, 9, 10, 11, 12, 14, 15, 16, 17, 18, 19, 20, 21, 22, 23, 2, 26, 27, 28, 29, 30, 32, 33, 34, 35, 36, 37, 65, 66, 67, 68, 69, 70, 71, 72, 73, 74, 75, 76, 77, 78, 79, 80, 81, 82, 83, 84, 85, 86, 87, 88, 89, 90] (by decide +kernel) (by decide +kernel)
set_option maxRecDepth 20000 in
theorem gX9_readCoin_X9_number : GoodIn wsX9_readCoin (wsV RX9 140 RX9 yX9_number wsX9_number) := goodIn_app (goodIn_of _ (by decide +kernel)) ggX9_readCoin_X9_number
set_option maxRecDepth 20000 in
theorem ggX9_readCoin_X9_mustEnd : GoodIn wsX9_readCoin wsX9_mustEnd := goodIn_r _ [64, 1, 24, 15, 16, 17, 7, 18, 9, 10, 11, 12, 13, 14, 19, 20, 21, 22, 23, 2, 25, 26, 27, 28, 29, 30, 31, 32, 33, 34, 35, 36, 37, 65, 66, 67, 68, 69, 70, 71, 72, 73, 74, 75, 76, 77, 78, 79, 80, 81, 82, 83, 84, 85, 86, 87, 88, 89, 90] (by decide +kernel) (by decide +kernel)
set_option maxRecDepth 20000 in
theorem gX9_readCoin_X9_mustEnd : GoodIn wsX9_readCoin (wsV RX9 144 RX9 yX9_mustEnd wsX9_mustEnd) := goodIn_app (goodIn_of _ (by decide +kernel)) ggX9_readCoin_X9_mustEnd
theorem dX9_readCoin_0 : decode cX9_readCoin 0 = .ok (.aload_n 0, 1) := by decide +kernel
theorem dX9_readCoin_1 : decode cX9_readCoin 1 = .ok (.iconst 3, 1) := by decide +kernel
theorem dX9_readCoin_2 : decode cX9_readCoin 2 = .ok (.bipush 12, 2) := by decide +kernel
theorem dX9_readCoin_4 : decode cX9_readCoin 4 = .ok (.invokevirtual 136, 3) := by decide +kernel
theorem dX9_readCoin_7 : decode cX9_readCoin 7 = .ok (.aload_n 0, 1) := by decide +kernel
theorem dX9_readCoin_8 : decode cX9_readCoin 8 = .ok (.invokevirtual 147, 3) := by decide +kernel
theorem dX9_readCoin_11 : decode cX9_readCoin 11 = .ok (.invokestatic 151, 3) := by decide +kernel
theorem dX9_readCoin_14 : decode cX9_readCoin 14 = .ok (.istore_n 1, 1) := by decide +kernel
theorem dX9_readCoin_15 : decode cX9_readCoin 15 = .ok (.aload_n 0, 1) := by decide +kernel
theorem dX9_readCoin_16 : decode cX9_readCoin 16 = .ok (.getfield 105, 3) := by decide +kernel
theorem dX9_readCoin_19 : decode cX9_readCoin 19 = .ok (.ifCond .ne 18, 3) := by decide +kernel
theorem dX9_readCoin_22 : decode cX9_readCoin 22 = .ok (.aload_n 0, 1) := by decide +kernel
theorem dX9_readCoin_23 : decode cX9_readCoin 23 = .ok (.iload_n 1, 1) := by decide +kernel
theorem dX9_readCoin_24 : decode cX9_readCoin 24 = .ok (.ldc 83, 2) := by decide +kernel
theorem dX9_readCoin_26 : decode cX9_readCoin 26 = .ok (.if_icmp .eq 7, 3) := by decide +kernel
theorem dX9_readCoin_29 : decode cX9_readCoin 29 = .ok (.iconst 1, 1) := by decide +kernel
theorem dX9_readCoin_30 : decode cX9_readCoin 30 = .ok (.goto 4, 3) := by decide +kernel
theorem dX9_readCoin_33 : decode cX9_readCoin 33 = .ok (.iconst 0, 1) := by decide +kernel
theorem dX9_readCoin_34 : decode cX9_readCoin 34 = .ok (.invokevirtual 122, 3) := by decide +kernel
theorem dX9_readCoin_37 : decode cX9_readCoin 37 = .ok (.aload_n 0, 1) := by decide +kernel
theorem dX9_readCoin_38 : decode cX9_readCoin 38 = .ok (.iconst 0, 1) := by decide +kernel
theorem dX9_readCoin_39 : decode cX9_readCoin 39 = .ok (.aload_n 0, 1) := by decide +kernel
theorem dX9_readCoin_40 : decode cX9_readCoin 40 = .ok (.getfield 22, 3) := by decide +kernel
theorem dX9_readCoin_43 : decode cX9_readCoin 43 = .ok (.iconst 2, 1) := by decide +kernel
theorem dX9_readCoin_44 : decode cX9_readCoin 44 = .ok (.iaload, 1) := by decide +kernel
theorem dX9_readCoin_45 : decode cX9_readCoin 45 = .ok (.iconst 1, 1) := by decide +kernel
theorem dX9_readCoin_46 : decode cX9_readCoin 46 = .ok (.isub, 1) := by decide +kernel
theorem dX9_readCoin_47 : decode cX9_readCoin 47 = .ok (.invokevirtual 140, 3) := by decide +kernel
theorem dX9_readCoin_50 : decode cX9_readCoin 50 = .ok (.istore_n 2, 1) := by decide +kernel
theorem dX9_readCoin_51 : decode cX9_readCoin 51 = .ok (.aload_n 0, 1) := by decide +kernel
theorem dX9_readCoin_52 : decode cX9_readCoin 52 = .ok (.iconst 0, 1) := by decide +kernel
theorem dX9_readCoin_53 : decode cX9_readCoin 53 = .ok (.sipush 400, 3) := by decide +kernel
theorem dX9_readCoin_56 : decode cX9_readCoin 56 = .ok (.invokevirtual 140, 3) := by decide +kernel
theorem dX9_readCoin_59 : decode cX9_readCoin 59 = .ok (.istore_n 3, 1) := by decide +kernel
theorem dX9_readCoin_60 : decode cX9_readCoin 60 = .ok (.aload_n 0, 1) := by decide +kernel
theorem dX9_readCoin_61 : decode cX9_readCoin 61 = .ok (.invokevirtual 144, 3) := by decide +kernel
theorem dX9_readCoin_64 : decode cX9_readCoin 64 = .ok (.aload_n 0, 1) := by decide +kernel
theorem dX9_readCoin_65 : decode cX9_readCoin 65 = .ok (.getfield 105, 3) := by decide +kernel
theorem dX9_readCoin_68 : decode cX9_readCoin 68 = .ok (.ifCond .ne 55, 3) := by decide +kernel
theorem dX9_readCoin_71 : decode cX9_readCoin 71 = .ok (.bipush 75, 2) := by decide +kernel
theorem dX9_readCoin_73 : decode cX9_readCoin 73 = .ok (.bipush 6, 2) := by decide +kernel
theorem dX9_readCoin_75 : decode cX9_readCoin 75 = .ok (.aload_n 0, 1) := by decide +kernel
theorem dX9_readCoin_76 : decode cX9_readCoin 76 = .ok (.getfield 22, 3) := by decide +kernel
theorem dX9_readCoin_79 : decode cX9_readCoin 79 = .ok (.iconst 3, 1) := by decide +kernel
theorem dX9_readCoin_80 : decode cX9_readCoin 80 = .ok (.iaload, 1) := by decide +kernel
theorem dX9_readCoin_81 : decode cX9_readCoin 81 = .ok (.imul, 1) := by decide +kernel
theorem dX9_readCoin_82 : decode cX9_readCoin 82 = .ok (.iadd, 1) := by decide +kernel
theorem dX9_readCoin_83 : decode cX9_readCoin 83 = .ok (.istore 4, 2) := by decide +kernel
theorem dX9_readCoin_85 : decode cX9_readCoin 85 = .ok (.aload_n 0, 1) := by decide +kernel
theorem dX9_readCoin_86 : decode cX9_readCoin 86 = .ok (.getfield 22, 3) := by decide +kernel
theorem dX9_readCoin_89 : decode cX9_readCoin 89 = .ok (.iload 4, 2) := by decide +kernel
theorem dX9_readCoin_91 : decode cX9_readCoin 91 = .ok (.iload_n 1, 1) := by decide +kernel
theorem dX9_readCoin_92 : decode cX9_readCoin 92 = .ok (.iastore, 1) := by decide +kernel
theorem dX9_readCoin_93 : decode cX9_readCoin 93 = .ok (.aload_n 0, 1) := by decide +kernel
theorem dX9_readCoin_94 : decode cX9_readCoin 94 = .ok (.getfield 22, 3) := by decide +kernel
theorem dX9_readCoin_97 : decode cX9_readCoin 97 = .ok (.iload 4, 2) := by decide +kernel
theorem dX9_readCoin_99 : decode cX9_readCoin 99 = .ok (.iconst 1, 1) := by decide +kernel
theorem dX9_readCoin_100 : decode cX9_readCoin 100 = .ok (.iadd, 1) := by decide +kernel
theorem dX9_readCoin_101 : decode cX9_readCoin 101 = .ok (.iload_n 2, 1) := by decide +kernel
theorem dX9_readCoin_102 : decode cX9_readCoin 102 = .ok (.iastore, 1) := by decide +kernel
theorem dX9_readCoin_103 : decode cX9_readCoin 103 = .ok (.aload_n 0, 1) := by decide +kernel
theorem dX9_readCoin_104 : decode cX9_readCoin 104 = .ok (.getfield 22, 3) := by decide +kernel
theorem dX9_readCoin_107 : decode cX9_readCoin 107 = .ok (.iload 4, 2) := by decide +kernel
theorem dX9_readCoin_109 : decode cX9_readCoin 109 = .ok (.iconst 2, 1) := by decide +kernel
theorem dX9_readCoin_110 : decode cX9_readCoin 110 = .ok (.iadd, 1) := by decide +kernel
theorem dX9_readCoin_111 : decode cX9_readCoin 111 = .ok (.iload_n 3, 1) := by decide +kernel
theorem dX9_readCoin_112 : decode cX9_readCoin 112 = .ok (.iastore, 1) := by decide +kernel
theorem dX9_readCoin_113 : decode cX9_readCoin 113 = .ok (.aload_n 0, 1) := by decide +kernel
theorem dX9_readCoin_114 : decode cX9_readCoin 114 = .ok (.getfield 22, 3) := by decide +kernel
theorem dX9_readCoin_117 : decode cX9_readCoin 117 = .ok (.iconst 3, 1) := by decide +kernel
theorem dX9_readCoin_118 : decode cX9_readCoin 118 = .ok (.dup2, 1) := by decide +kernel
theorem dX9_readCoin_119 : decode cX9_readCoin 119 = .ok (.iaload, 1) := by decide +kernel
theorem dX9_readCoin_120 : decode cX9_readCoin 120 = .ok (.iconst 1, 1) := by decide +kernel
theorem dX9_readCoin_121 : decode cX9_readCoin 121 = .ok (.iadd, 1) := by decide +kernel
theorem dX9_readCoin_122 : decode cX9_readCoin 122 = .ok (.iastore, 1) := by decide +kernel
theorem dX9_readCoin_123 : decode cX9_readCoin 123 = .ok (.return_, 1) := by decide +kernel
theorem dX9_layFar_0 : decode cX9_layFar 0 = .ok (.iconst 0, 1) := by decide +kernel
theorem dX9_layFar_1 : decode cX9_layFar 1 = .ok (.istore_n 1, 1) := by decide +kernel
theorem dX9_layFar_2 : decode cX9_layFar 2 = .ok (.iload_n 1, 1) := by decide +kernel
theorem dX9_layFar_3 : decode cX9_layFar 3 = .ok (.bipush 8, 2) := by decide +kernel
theorem dX9_layFar_5 : decode cX9_layFar 5 = .ok (.if_icmp .ge 115, 3) := by decide +kernel
theorem dX9_layFar_8 : decode cX9_layFar 8 = .ok (.iconst 0, 1) := by decide +kernel
theorem dX9_layFar_9 : decode cX9_layFar 9 = .ok (.istore_n 2, 1) := by decide +kernel
theorem dX9_layFar_10 : decode cX9_layFar 10 = .ok (.iload_n 2, 1) := by decide +kernel
theorem dX9_layFar_11 : decode cX9_layFar 11 = .ok (.bipush 8, 2) := by decide +kernel
theorem dX9_layFar_13 : decode cX9_layFar 13 = .ok (.if_icmp .ge 101, 3) := by decide +kernel
theorem dX9_layFar_16 : decode cX9_layFar 16 = .ok (.iconst 0, 1) := by decide +kernel
theorem dX9_layFar_17 : decode cX9_layFar 17 = .ok (.istore_n 3, 1) := by decide +kernel
theorem dX9_layFar_18 : decode cX9_layFar 18 = .ok (.iload_n 3, 1) := by decide +kernel
theorem dX9_layFar_19 : decode cX9_layFar 19 = .ok (.bipush 8, 2) := by decide +kernel
theorem dX9_layFar_21 : decode cX9_layFar 21 = .ok (.if_icmp .ge 87, 3) := by decide +kernel
theorem dX9_layFar_24 : decode cX9_layFar 24 = .ok (.aload_n 0, 1) := by decide +kernel
theorem dX9_layFar_25 : decode cX9_layFar 25 = .ok (.getfield 22, 3) := by decide +kernel
theorem dX9_layFar_28 : decode cX9_layFar 28 = .ok (.iconst 5, 1) := by decide +kernel
theorem dX9_layFar_29 : decode cX9_layFar 29 = .ok (.bipush 8, 2) := by decide +kernel
theorem dX9_layFar_31 : decode cX9_layFar 31 = .ok (.iload_n 2, 1) := by decide +kernel
theorem dX9_layFar_32 : decode cX9_layFar 32 = .ok (.imul, 1) := by decide +kernel
theorem dX9_layFar_33 : decode cX9_layFar 33 = .ok (.iadd, 1) := by decide +kernel
theorem dX9_layFar_34 : decode cX9_layFar 34 = .ok (.iload_n 1, 1) := by decide +kernel
theorem dX9_layFar_35 : decode cX9_layFar 35 = .ok (.iadd, 1) := by decide +kernel
theorem dX9_layFar_36 : decode cX9_layFar 36 = .ok (.iaload, 1) := by decide +kernel
theorem dX9_layFar_37 : decode cX9_layFar 37 = .ok (.aload_n 0, 1) := by decide +kernel
theorem dX9_layFar_38 : decode cX9_layFar 38 = .ok (.getfield 22, 3) := by decide +kernel
theorem dX9_layFar_41 : decode cX9_layFar 41 = .ok (.iconst 5, 1) := by decide +kernel
theorem dX9_layFar_42 : decode cX9_layFar 42 = .ok (.bipush 8, 2) := by decide +kernel
theorem dX9_layFar_44 : decode cX9_layFar 44 = .ok (.iload_n 1, 1) := by decide +kernel
theorem dX9_layFar_45 : decode cX9_layFar 45 = .ok (.imul, 1) := by decide +kernel
theorem dX9_layFar_46 : decode cX9_layFar 46 = .ok (.iadd, 1) := by decide +kernel
theorem dX9_layFar_47 : decode cX9_layFar 47 = .ok (.iload_n 3, 1) := by decide +kernel
theorem dX9_layFar_48 : decode cX9_layFar 48 = .ok (.iadd, 1) := by decide +kernel
theorem dX9_layFar_49 : decode cX9_layFar 49 = .ok (.iaload, 1) := by decide +kernel
theorem dX9_layFar_50 : decode cX9_layFar 50 = .ok (.iadd, 1) := by decide +kernel
theorem dX9_layFar_51 : decode cX9_layFar 51 = .ok (.istore 4, 2) := by decide +kernel
theorem dX9_layFar_53 : decode cX9_layFar 53 = .ok (.aload_n 0, 1) := by decide +kernel
theorem dX9_layFar_54 : decode cX9_layFar 54 = .ok (.getfield 22, 3) := by decide +kernel
theorem dX9_layFar_57 : decode cX9_layFar 57 = .ok (.iconst 5, 1) := by decide +kernel
theorem dX9_layFar_58 : decode cX9_layFar 58 = .ok (.bipush 8, 2) := by decide +kernel
theorem dX9_layFar_60 : decode cX9_layFar 60 = .ok (.iload_n 2, 1) := by decide +kernel
theorem dX9_layFar_61 : decode cX9_layFar 61 = .ok (.imul, 1) := by decide +kernel
theorem dX9_layFar_62 : decode cX9_layFar 62 = .ok (.iadd, 1) := by decide +kernel
theorem dX9_layFar_63 : decode cX9_layFar 63 = .ok (.iload_n 3, 1) := by decide +kernel
theorem dX9_layFar_64 : decode cX9_layFar 64 = .ok (.iadd, 1) := by decide +kernel
theorem dX9_layFar_65 : decode cX9_layFar 65 = .ok (.iload 4, 2) := by decide +kernel
theorem dX9_layFar_67 : decode cX9_layFar 67 = .ok (.aload_n 0, 1) := by decide +kernel
theorem dX9_layFar_68 : decode cX9_layFar 68 = .ok (.getfield 22, 3) := by decide +kernel
theorem dX9_layFar_71 : decode cX9_layFar 71 = .ok (.iconst 5, 1) := by decide +kernel
theorem dX9_layFar_72 : decode cX9_layFar 72 = .ok (.bipush 8, 2) := by decide +kernel
theorem dX9_layFar_74 : decode cX9_layFar 74 = .ok (.iload_n 2, 1) := by decide +kernel
theorem dX9_layFar_75 : decode cX9_layFar 75 = .ok (.imul, 1) := by decide +kernel
theorem dX9_layFar_76 : decode cX9_layFar 76 = .ok (.iadd, 1) := by decide +kernel
theorem dX9_layFar_77 : decode cX9_layFar 77 = .ok (.iload_n 3, 1) := by decide +kernel
theorem dX9_layFar_78 : decode cX9_layFar 78 = .ok (.iadd, 1) := by decide +kernel
theorem dX9_layFar_79 : decode cX9_layFar 79 = .ok (.iaload, 1) := by decide +kernel
theorem dX9_layFar_80 : decode cX9_layFar 80 = .ok (.if_icmp .ge 8, 3) := by decide +kernel
theorem dX9_layFar_83 : decode cX9_layFar 83 = .ok (.iload 4, 2) := by decide +kernel
theorem dX9_layFar_85 : decode cX9_layFar 85 = .ok (.goto 16, 3) := by decide +kernel
theorem dX9_layFar_88 : decode cX9_layFar 88 = .ok (.aload_n 0, 1) := by decide +kernel
theorem dX9_layFar_89 : decode cX9_layFar 89 = .ok (.getfield 22, 3) := by decide +kernel
theorem dX9_layFar_92 : decode cX9_layFar 92 = .ok (.iconst 5, 1) := by decide +kernel
theorem dX9_layFar_93 : decode cX9_layFar 93 = .ok (.bipush 8, 2) := by decide +kernel
theorem dX9_layFar_95 : decode cX9_layFar 95 = .ok (.iload_n 2, 1) := by decide +kernel
theorem dX9_layFar_96 : decode cX9_layFar 96 = .ok (.imul, 1) := by decide +kernel
theorem dX9_layFar_97 : decode cX9_layFar 97 = .ok (.iadd, 1) := by decide +kernel
theorem dX9_layFar_98 : decode cX9_layFar 98 = .ok (.iload_n 3, 1) := by decide +kernel
theorem dX9_layFar_99 : decode cX9_layFar 99 = .ok (.iadd, 1) := by decide +kernel
theorem dX9_layFar_100 : decode cX9_layFar 100 = .ok (.iaload, 1) := by decide +kernel
theorem dX9_layFar_101 : decode cX9_layFar 101 = .ok (.iastore, 1) := by decide +kernel
theorem dX9_layFar_102 : decode cX9_layFar 102 = .ok (.iinc 3 1, 3) := by decide +kernel
theorem dX9_layFar_105 : decode cX9_layFar 105 = .ok (.goto (-87), 3) := by decide +kernel
theorem dX9_layFar_108 : decode cX9_layFar 108 = .ok (.iinc 2 1, 3) := by decide +kernel
theorem dX9_layFar_111 : decode cX9_layFar 111 = .ok (.goto (-101), 3) := by decide +kernel
theorem dX9_layFar_114 : decode cX9_layFar 114 = .ok (.iinc 1 1, 3) := by decide +kernel
theorem dX9_layFar_117 : decode cX9_layFar 117 = .ok (.goto (-115), 3) := by decide +kernel
theorem dX9_layFar_120 : decode cX9_layFar 120 = .ok (.return_, 1) := by decide +kernel
set_option maxRecDepth 20000 in
theorem ggX9_realm_X9_begin : GoodIn wsX9_realm wsX9_begin := goodIn_r _ [19, 20, 21, 22, 7, 23, 24, 25, 18, 26, 27, 28, 8, 29, 30, 31, 32, 33, 34, 35, 36, 37, 38, 39, 40, 96, 97, 98, 99, 100, 101, 102, 103, 104, 105, 106, 107, 108, 109, 110, 111, 112, 113, 114, 115, 116, 117, 118, 119, 120, 121] (by decide +kernel) (by decide +kernel)
set_option maxRecDepth 20000 in
theorem gX9_realm_X9_begin : GoodIn wsX9_realm (wsV RX9 155 RX9 yX9_begin wsX9_begin) := goodIn_app (goodIn_of _ (by decide +kernel)) ggX9_realm_X9_begin
set_option maxRecDepth 20000 in
theorem ggX9_realm_X9_name : GoodIn wsX9_realm wsX9_name := goodIn_r _ [44, 27, 29, 8, 34, 7, 96, 97, 98, 99, 100, 101, 102, 103, 104, 105, 106, 107, 108, 109, 110, 111, 112, 113, 114, 115, 116, 117, 118, 119, 120, 121] (by decide +kernel) (by decide +kernel)
set_option maxRecDepth 20000 in
theorem gX9_realm_X9_name : GoodIn wsX9_realm (wsV RX9 147 RX9 yX9_name wsX9_name) := goodIn_app (goodIn_of _ (by decide +kernel)) ggX9_realm_X9_name
set_option maxRecDepth 20000 in
theorem ggX9_realm_X9_must : GoodIn wsX9_realm wsX9_must := goodIn_r _ [48, 7, 49, 50, 51, 18, 52, 27, 11, 23, 24, 25, 26, 22, 28, 8, 29, 30, 31, 32, 33, 21, 34, 35, 36, 37, 38, 39, 40, 96, 97, 98, 99, 100, 101, 102, 103, 104, 105, 106, 107, 108, 109, 110, 111, 112, 113, 114, 115, 116, 117, 118, 119, 120, 121] (by decide +kernel) (by decide +kernel)
set_option maxRecDepth 20000 in
theorem gX9_realm_X9_must : GoodIn wsX9_realm (wsV RX9 122 RX9 yX9_must wsX9_must) := goodIn_app (goodIn_of _ (by decide +kernel)) ggX9_realm_X9_must
set_option maxRecDepth 20000 in
theorem ggX9_realm_X9_number : GoodIn wsX9_realm wsX9_number := goodIn_r _ [56, 7, 8, 57, 58, 59, 18, 60, 27, 29, 34, 61, 62, 63, 49, 50, 51, 52, 11, 45, 46, 47, 48, 23, 24, 25, 26, 22, 28, 30, 31, 32, 33, 21, 35, 36, 37, 38, 39, 40, 96, 97, 98, 99, 100, 101, 102, 103, 104, 105, 106, 107, 108, 109, 110, 111, 112, 113, 114, 115, 116, 117, 118, 119, 120, 121] (by decide +kernel) (by decide +kernel)
set_option maxRecDepth 20000 in
theorem gX9_realm_X9_number : GoodIn wsX9_realm (wsV RX9 140 RX9 yX9_number wsX9_number) := goodIn_app (goodIn_of _ (by decide +kernel)) ggX9_realm_X9_number
set_option maxRecDepth 20000 in
theorem ggX9_realm_X9_mustEnd : GoodIn wsX9_realm wsX9_mustEnd := goodIn_r _ [67, 7, 8, 45, 46, 47, 18, 48, 49, 50, 51, 52, 27, 11, 23, 24, 25, 26, 22, 28, 29, 30, 31, 32, 33, 21, 34, 35, 36, 37, 38, 39, 40, 96, 97, 98, 99, 100, 101, 102, 103, 104, 105, 106, 107, 108, 109, 110, 111, 112, 113, 114, 115, 116, 117, 118, 119, 120, 121] (by decide +kernel) (by decide +kernel)
set_option maxRecDepth 20000 in
theorem gX9_realm_X9_mustEnd : GoodIn wsX9_realm (wsV RX9 144 RX9 yX9_mustEnd wsX9_mustEnd) := goodIn_app (goodIn_of _ (by decide +kernel)) ggX9_realm_X9_mustEnd
set_option maxRecDepth 20000 in
theorem ggX9_realm_X9_readRoad : GoodIn wsX9_realm wsX9_readRoad := goodIn_r _ [71, 7, 8, 2, 72, 73, 74, 18, 75, 49, 50, 51, 52, 27, 11, 45, 46, 47, 48, 23, 24, 25, 26, 22, 28, 29, 30, 31, 32, 33, 21, 34, 35, 36, 37, 38, 39, 40, 53, 54, 55, 56, 57, 58, 59, 60, 61, 62, 63, 64, 65, 66, 67, 96, 97, 98, 99, 100, 101, 102, 103, 104, 105, 106, 107, 108, 109, 110, 111, 112, 113, 114, 115, 116, 117, 118, 119, 120, 121] (by decide +kernel) (by decide +kernel)
set_option maxRecDepth 20000 in
theorem gX9_realm_X9_readRoad : GoodIn wsX9_realm (wsV RX9 162 RX9 yX9_readRoad wsX9_readRoad) := goodIn_app (goodIn_of _ (by decide +kernel)) ggX9_realm_X9_readRoad
set_option maxRecDepth 20000 in
theorem ggX9_realm_X9_readHolder : GoodIn wsX9_realm wsX9_readHolder := goodIn_r _ [79, 7, 2, 72, 73, 74, 18, 75, 49, 50, 51, 52, 27, 11, 45, 46, 47, 48, 23, 24, 25, 26, 22, 28, 8, 29, 30, 31, 32, 33, 21, 34, 35, 36, 37, 38, 39, 40, 53, 54, 55, 56, 57, 58, 59, 60, 61, 62, 63, 64, 65, 66, 67, 96, 97, 98, 99, 100, 101, 102, 103, 104, 105, 106, 107, 108, 109, 110, 111, 112, 113, 114, 115, 116, 117, 118, 119, 120, 121] (by decide +kernel) (by decide +kernel)
set_option maxRecDepth 20000 in
theorem gX9_realm_X9_readHolder : GoodIn wsX9_realm (wsV RX9 167 RX9 yX9_readHolder wsX9_readHolder) := goodIn_app (goodIn_of _ (by decide +kernel)) ggX9_realm_X9_readHolder
set_option maxRecDepth 20000 in
theorem ggX9_realm_X9_readCoin : GoodIn wsX9_realm wsX9_readCoin := goodIn_r _ [83, 7, 28, 2, 72, 73, 74, 18, 75, 49, 50, 51, 52, 27, 11, 45, 46, 47, 48, 23, 24, 25, 26, 22, 8, 29, 30, 31, 32, 33, 21, 34, 35, 36, 37, 38, 39, 40, 41, 42, 43, 44, 84, 85, 86, 87, 88, 89, 90, 91, 53, 54, 55, 56, 57, 58, 59, 60, 61, 62, 63, 64, 65, 66, 67, 96, 97, 98, 99, 100, 101, 102, 103, 104, 105, 106, 107, 108, 109, 110, 111, 112, 113, 114, 115, 116, 117, 118, 119, 120, 121] (by decide +kernel) (by decide +kernel)
set_option maxRecDepth 20000 in
theorem gX9_realm_X9_readCoin : GoodIn wsX9_realm (wsV RX9 172 RX9 yX9_readCoin wsX9_readCoin) := goodIn_app (goodIn_of _ (by decide +kernel)) ggX9_realm_X9_readCoin
set_option maxRecDepth 20000 in
theorem ggX9_realm_X9_bad : GoodIn wsX9_realm wsX9_bad := goodIn_r _ [52, 7, 27, 11, 96, 97, 98, 99, 100, 101, 102, 103, 104, 105, 106, 107, 108, 109, 110, 111, 112, 113, 114, 115, 116, 117, 118, 119, 120, 121] (by decide +kernel) (by decide +kernel)
set_option maxRecDepth 20000 in
theorem gX9_realm_X9_bad : GoodIn wsX9_realm (wsV RX9 114 RX9 yX9_bad wsX9_bad) := goodIn_app (goodIn_of _ (by decide +kernel)) ggX9_realm_X9_bad
set_option maxRecDepth 20000 in
theorem ggX9_realm_X9_layFar : GoodIn wsX9_realm wsX9_layFar := goodIn_r _ [95, 2, 96, 97, 98, 99, 100, 101, 102, 103, 104, 105, 106, 107, 108, 109, 110, 111, 112, 113, 114, 115, 116, 117, 118, 119, 120, 121] (by decide +kernel) (by decide +kernel)
set_option maxRecDepth 20000 in
theorem gX9_realm_X9_layFar : GoodIn wsX9_realm (wsV RX9 186 RX9 yX9_layFar wsX9_layFar) := goodIn_app (goodIn_of _ (by decide +kernel)) ggX9_realm_X9_layFar
theorem dX9_realm_0 : decode cX9_realm 0 = .ok (.aload_n 0, 1) := by decide +kernel
theorem dX9_realm_1 : decode cX9_realm 1 = .ok (.iconst 0, 1) := by decide +kernel
theorem dX9_realm_2 : decode cX9_realm 2 = .ok (.putfield 47, 3) := by decide +kernel
theorem dX9_realm_5 : decode cX9_realm 5 = .ok (.aload_n 0, 1) := by decide +kernel
theorem dX9_realm_6 : decode cX9_realm 6 = .ok (.invokevirtual 155, 3) := by decide +kernel
theorem dX9_realm_9 : decode cX9_realm 9 = .ok (.iconst 0, 1) := by decide +kernel
theorem dX9_realm_10 : decode cX9_realm 10 = .ok (.istore_n 1, 1) := by decide +kernel
theorem dX9_realm_11 : decode cX9_realm 11 = .ok (.iload_n 1, 1) := by decide +kernel
theorem dX9_realm_12 : decode cX9_realm 12 = .ok (.sipush 147, 3) := by decide +kernel
theorem dX9_realm_15 : decode cX9_realm 15 = .ok (.if_icmp .ge 33, 3) := by decide +kernel
theorem dX9_realm_18 : decode cX9_realm 18 = .ok (.aload_n 0, 1) := by decide +kernel
theorem dX9_realm_19 : decode cX9_realm 19 = .ok (.getfield 22, 3) := by decide +kernel
theorem dX9_realm_22 : decode cX9_realm 22 = .ok (.iload_n 1, 1) := by decide +kernel
theorem dX9_realm_23 : decode cX9_realm 23 = .ok (.iload_n 1, 1) := by decide +kernel
theorem dX9_realm_24 : decode cX9_realm 24 = .ok (.iconst 5, 1) := by decide +kernel
theorem dX9_realm_25 : decode cX9_realm 25 = .ok (.if_icmp .lt 15, 3) := by decide +kernel
theorem dX9_realm_28 : decode cX9_realm 28 = .ok (.iload_n 1, 1) := by decide +kernel
theorem dX9_realm_29 : decode cX9_realm 29 = .ok (.bipush 69, 2) := by decide +kernel
theorem dX9_realm_31 : decode cX9_realm 31 = .ok (.if_icmp .ge 9, 3) := by decide +kernel
theorem dX9_realm_34 : decode cX9_realm 34 = .ok (.sipush 10000, 3) := by decide +kernel
theorem dX9_realm_37 : decode cX9_realm 37 = .ok (.goto 4, 3) := by decide +kernel
theorem dX9_realm_40 : decode cX9_realm 40 = .ok (.iconst 0, 1) := by decide +kernel
theorem dX9_realm_41 : decode cX9_realm 41 = .ok (.iastore, 1) := by decide +kernel
theorem dX9_realm_42 : decode cX9_realm 42 = .ok (.iinc 1 1, 3) := by decide +kernel
theorem dX9_realm_45 : decode cX9_realm 45 = .ok (.goto (-34), 3) := by decide +kernel
theorem dX9_realm_48 : decode cX9_realm 48 = .ok (.iconst 0, 1) := by decide +kernel
theorem dX9_realm_49 : decode cX9_realm 49 = .ok (.istore_n 1, 1) := by decide +kernel
theorem dX9_realm_50 : decode cX9_realm 50 = .ok (.iload_n 1, 1) := by decide +kernel
theorem dX9_realm_51 : decode cX9_realm 51 = .ok (.bipush 8, 2) := by decide +kernel
theorem dX9_realm_53 : decode cX9_realm 53 = .ok (.if_icmp .ge 21, 3) := by decide +kernel
theorem dX9_realm_56 : decode cX9_realm 56 = .ok (.aload_n 0, 1) := by decide +kernel
theorem dX9_realm_57 : decode cX9_realm 57 = .ok (.getfield 22, 3) := by decide +kernel
theorem dX9_realm_60 : decode cX9_realm 60 = .ok (.iconst 5, 1) := by decide +kernel
theorem dX9_realm_61 : decode cX9_realm 61 = .ok (.bipush 9, 2) := by decide +kernel
theorem dX9_realm_63 : decode cX9_realm 63 = .ok (.iload_n 1, 1) := by decide +kernel
theorem dX9_realm_64 : decode cX9_realm 64 = .ok (.imul, 1) := by decide +kernel
theorem dX9_realm_65 : decode cX9_realm 65 = .ok (.iadd, 1) := by decide +kernel
theorem dX9_realm_66 : decode cX9_realm 66 = .ok (.iconst 0, 1) := by decide +kernel
theorem dX9_realm_67 : decode cX9_realm 67 = .ok (.iastore, 1) := by decide +kernel
theorem dX9_realm_68 : decode cX9_realm 68 = .ok (.iinc 1 1, 3) := by decide +kernel
theorem dX9_realm_71 : decode cX9_realm 71 = .ok (.goto (-21), 3) := by decide +kernel
theorem dX9_realm_74 : decode cX9_realm 74 = .ok (.aload_n 0, 1) := by decide +kernel
theorem dX9_realm_75 : decode cX9_realm 75 = .ok (.aload_n 0, 1) := by decide +kernel
theorem dX9_realm_76 : decode cX9_realm 76 = .ok (.invokevirtual 147, 3) := by decide +kernel
theorem dX9_realm_79 : decode cX9_realm 79 = .ok (.ldc2_w 158, 3) := by decide +kernel
theorem dX9_realm_82 : decode cX9_realm 82 = .ok (.lcmp, 1) := by decide +kernel
theorem dX9_realm_83 : decode cX9_realm 83 = .ok (.ifCond .ne 7, 3) := by decide +kernel
theorem dX9_realm_86 : decode cX9_realm 86 = .ok (.iconst 1, 1) := by decide +kernel
theorem dX9_realm_87 : decode cX9_realm 87 = .ok (.goto 4, 3) := by decide +kernel
theorem dX9_realm_90 : decode cX9_realm 90 = .ok (.iconst 0, 1) := by decide +kernel
theorem dX9_realm_91 : decode cX9_realm 91 = .ok (.invokevirtual 122, 3) := by decide +kernel
theorem dX9_realm_94 : decode cX9_realm 94 = .ok (.aload_n 0, 1) := by decide +kernel
theorem dX9_realm_95 : decode cX9_realm 95 = .ok (.getfield 22, 3) := by decide +kernel
theorem dX9_realm_98 : decode cX9_realm 98 = .ok (.iconst 0, 1) := by decide +kernel
theorem dX9_realm_99 : decode cX9_realm 99 = .ok (.aload_n 0, 1) := by decide +kernel
theorem dX9_realm_100 : decode cX9_realm 100 = .ok (.iconst 1, 1) := by decide +kernel
theorem dX9_realm_101 : decode cX9_realm 101 = .ok (.sipush 400, 3) := by decide +kernel
theorem dX9_realm_104 : decode cX9_realm 104 = .ok (.invokevirtual 140, 3) := by decide +kernel
theorem dX9_realm_107 : decode cX9_realm 107 = .ok (.iastore, 1) := by decide +kernel
theorem dX9_realm_108 : decode cX9_realm 108 = .ok (.aload_n 0, 1) := by decide +kernel
theorem dX9_realm_109 : decode cX9_realm 109 = .ok (.invokevirtual 144, 3) := by decide +kernel
theorem dX9_realm_112 : decode cX9_realm 112 = .ok (.aload_n 0, 1) := by decide +kernel
theorem dX9_realm_113 : decode cX9_realm 113 = .ok (.invokevirtual 147, 3) := by decide +kernel
theorem dX9_realm_116 : decode cX9_realm 116 = .ok (.ldc2_w 160, 3) := by decide +kernel
theorem dX9_realm_119 : decode cX9_realm 119 = .ok (.lcmp, 1) := by decide +kernel
theorem dX9_realm_120 : decode cX9_realm 120 = .ok (.ifCond .ne 10, 3) := by decide +kernel
theorem dX9_realm_123 : decode cX9_realm 123 = .ok (.aload_n 0, 1) := by decide +kernel
theorem dX9_realm_124 : decode cX9_realm 124 = .ok (.invokevirtual 162, 3) := by decide +kernel
theorem dX9_realm_127 : decode cX9_realm 127 = .ok (.goto (-15), 3) := by decide +kernel
theorem dX9_realm_130 : decode cX9_realm 130 = .ok (.aload_n 0, 1) := by decide +kernel
theorem dX9_realm_131 : decode cX9_realm 131 = .ok (.invokevirtual 147, 3) := by decide +kernel
theorem dX9_realm_134 : decode cX9_realm 134 = .ok (.ldc2_w 165, 3) := by decide +kernel
theorem dX9_realm_137 : decode cX9_realm 137 = .ok (.lcmp, 1) := by decide +kernel
theorem dX9_realm_138 : decode cX9_realm 138 = .ok (.ifCond .ne 10, 3) := by decide +kernel
theorem dX9_realm_141 : decode cX9_realm 141 = .ok (.aload_n 0, 1) := by decide +kernel
theorem dX9_realm_142 : decode cX9_realm 142 = .ok (.invokevirtual 167, 3) := by decide +kernel
theorem dX9_realm_145 : decode cX9_realm 145 = .ok (.goto (-15), 3) := by decide +kernel
theorem dX9_realm_148 : decode cX9_realm 148 = .ok (.aload_n 0, 1) := by decide +kernel
theorem dX9_realm_149 : decode cX9_realm 149 = .ok (.invokevirtual 147, 3) := by decide +kernel
theorem dX9_realm_152 : decode cX9_realm 152 = .ok (.ldc2_w 170, 3) := by decide +kernel
theorem dX9_realm_155 : decode cX9_realm 155 = .ok (.lcmp, 1) := by decide +kernel
theorem dX9_realm_156 : decode cX9_realm 156 = .ok (.ifCond .ne 10, 3) := by decide +kernel
theorem dX9_realm_159 : decode cX9_realm 159 = .ok (.aload_n 0, 1) := by decide +kernel
theorem dX9_realm_160 : decode cX9_realm 160 = .ok (.invokevirtual 172, 3) := by decide +kernel
theorem dX9_realm_163 : decode cX9_realm 163 = .ok (.goto (-15), 3) := by decide +kernel
theorem dX9_realm_166 : decode cX9_realm 166 = .ok (.aload_n 0, 1) := by decide +kernel
theorem dX9_realm_167 : decode cX9_realm 167 = .ok (.getfield 105, 3) := by decide +kernel
theorem dX9_realm_170 : decode cX9_realm 170 = .ok (.ifCond .ne 16, 3) := by decide +kernel
theorem dX9_realm_173 : decode cX9_realm 173 = .ok (.aload_n 0, 1) := by decide +kernel
theorem dX9_realm_174 : decode cX9_realm 174 = .ok (.getfield 93, 3) := by decide +kernel
theorem dX9_realm_177 : decode cX9_realm 177 = .ok (.iconst 1, 1) := by decide +kernel
theorem dX9_realm_178 : decode cX9_realm 178 = .ok (.if_icmp .eq 8, 3) := by decide +kernel
theorem dX9_realm_181 : decode cX9_realm 181 = .ok (.aload_n 0, 1) := by decide +kernel
theorem dX9_realm_182 : decode cX9_realm 182 = .ok (.iconst 1, 1) := by decide +kernel
theorem dX9_realm_183 : decode cX9_realm 183 = .ok (.invokevirtual 114, 3) := by decide +kernel
theorem dX9_realm_186 : decode cX9_realm 186 = .ok (.aload_n 0, 1) := by decide +kernel
theorem dX9_realm_187 : decode cX9_realm 187 = .ok (.getfield 105, 3) := by decide +kernel
theorem dX9_realm_190 : decode cX9_realm 190 = .ok (.ifCond .le 19, 3) := by decide +kernel
theorem dX9_realm_193 : decode cX9_realm 193 = .ok (.aload_n 0, 1) := by decide +kernel
theorem dX9_realm_194 : decode cX9_realm 194 = .ok (.aload_n 0, 1) := by decide +kernel
theorem dX9_realm_195 : decode cX9_realm 195 = .ok (.getfield 105, 3) := by decide +kernel
theorem dX9_realm_198 : decode cX9_realm 198 = .ok (.putfield 175, 3) := by decide +kernel
theorem dX9_realm_201 : decode cX9_realm 201 = .ok (.ldc 178, 2) := by decide +kernel
theorem dX9_realm_203 : decode cX9_realm 203 = .ok (.aload_n 0, 1) := by decide +kernel
theorem dX9_realm_204 : decode cX9_realm 204 = .ok (.getfield 111, 3) := by decide +kernel
theorem dX9_realm_207 : decode cX9_realm 207 = .ok (.isub, 1) := by decide +kernel
theorem dX9_realm_208 : decode cX9_realm 208 = .ok (.ireturn, 1) := by decide +kernel
theorem dX9_realm_209 : decode cX9_realm 209 = .ok (.aload_n 0, 1) := by decide +kernel
theorem dX9_realm_210 : decode cX9_realm 210 = .ok (.iconst 1, 1) := by decide +kernel
theorem dX9_realm_211 : decode cX9_realm 211 = .ok (.putfield 179, 3) := by decide +kernel
theorem dX9_realm_214 : decode cX9_realm 214 = .ok (.aload_n 0, 1) := by decide +kernel
theorem dX9_realm_215 : decode cX9_realm 215 = .ok (.iconst 0, 1) := by decide +kernel
theorem dX9_realm_216 : decode cX9_realm 216 = .ok (.putfield 183, 3) := by decide +kernel
theorem dX9_realm_219 : decode cX9_realm 219 = .ok (.aload_n 0, 1) := by decide +kernel
theorem dX9_realm_220 : decode cX9_realm 220 = .ok (.invokevirtual 186, 3) := by decide +kernel
theorem dX9_realm_223 : decode cX9_realm 223 = .ok (.iconst 0, 1) := by decide +kernel
theorem dX9_realm_224 : decode cX9_realm 224 = .ok (.istore_n 1, 1) := by decide +kernel
theorem dX9_realm_225 : decode cX9_realm 225 = .ok (.iload_n 1, 1) := by decide +kernel
theorem dX9_realm_226 : decode cX9_realm 226 = .ok (.sipush 147, 3) := by decide +kernel
theorem dX9_realm_229 : decode cX9_realm 229 = .ok (.if_icmp .ge 21, 3) := by decide +kernel
theorem dX9_realm_232 : decode cX9_realm 232 = .ok (.aload_n 0, 1) := by decide +kernel
theorem dX9_realm_233 : decode cX9_realm 233 = .ok (.getfield 19, 3) := by decide +kernel
theorem dX9_realm_236 : decode cX9_realm 236 = .ok (.iload_n 1, 1) := by decide +kernel
theorem dX9_realm_237 : decode cX9_realm 237 = .ok (.aload_n 0, 1) := by decide +kernel
theorem dX9_realm_238 : decode cX9_realm 238 = .ok (.getfield 22, 3) := by decide +kernel
theorem dX9_realm_241 : decode cX9_realm 241 = .ok (.iload_n 1, 1) := by decide +kernel
theorem dX9_realm_242 : decode cX9_realm 242 = .ok (.iaload, 1) := by decide +kernel
theorem dX9_realm_243 : decode cX9_realm 243 = .ok (.iastore, 1) := by decide +kernel
theorem dX9_realm_244 : decode cX9_realm 244 = .ok (.iinc 1 1, 3) := by decide +kernel
theorem dX9_realm_247 : decode cX9_realm 247 = .ok (.goto (-22), 3) := by decide +kernel
theorem dX9_realm_250 : decode cX9_realm 250 = .ok (.aload_n 0, 1) := by decide +kernel
theorem dX9_realm_251 : decode cX9_realm 251 = .ok (.getfield 19, 3) := by decide +kernel
theorem dX9_realm_254 : decode cX9_realm 254 = .ok (.iconst 3, 1) := by decide +kernel
theorem dX9_realm_255 : decode cX9_realm 255 = .ok (.iaload, 1) := by decide +kernel
theorem dX9_realm_256 : decode cX9_realm 256 = .ok (.ireturn, 1) := by decide +kernel
end
section
theorem dX9_fault_0 : decode cX9_fault 0 = .ok (.aload_n 0, 1) := by decide +kernel
theorem dX9_fault_1 : decode cX9_fault 1 = .ok (.iconst 0, 1) := by decide +kernel
theorem dX9_fault_2 : decode cX9_fault 2 = .ok (.putfield 47, 3) := by decide +kernel
theorem dX9_fault_5 : decode cX9_fault 5 = .ok (.aload_n 0, 1) := by decide +kernel
theorem dX9_fault_6 : decode cX9_fault 6 = .ok (.getfield 175, 3) := by decide +kernel
theorem dX9_fault_9 : decode cX9_fault 9 = .ok (.ireturn, 1) := by decide +kernel
set_option maxRecDepth 20000 in
theorem ggX9_isHolder_X9_in : GoodIn wsX9_isHolder wsX9_in := goodIn_r _ [5] (by decide +kernel) (by decide +kernel)
set_option maxRecDepth 20000 in
theorem gX9_isHolder_X9_in : GoodIn wsX9_isHolder (va_wsS RX9 57 yX9_in wsX9_in) := goodIn_app (goodIn_of _ (by decide +kernel)) ggX9_isHolder_X9_in
theorem dX9_isHolder_0 : decode cX9_isHolder 0 = .ok (.iload_n 1, 1) := by decide +kernel
theorem dX9_isHolder_1 : decode cX9_isHolder 1 = .ok (.i2l, 1) := by decide +kernel
theorem dX9_isHolder_2 : decode cX9_isHolder 2 = .ok (.lconst 0, 1) := by decide +kernel
theorem dX9_isHolder_3 : decode cX9_isHolder 3 = .ok (.aload_n 0, 1) := by decide +kernel
theorem dX9_isHolder_4 : decode cX9_isHolder 4 = .ok (.getfield 19, 3) := by decide +kernel
theorem dX9_isHolder_7 : decode cX9_isHolder 7 = .ok (.iconst 2, 1) := by decide +kernel
theorem dX9_isHolder_8 : decode cX9_isHolder 8 = .ok (.iaload, 1) := by decide +kernel
theorem dX9_isHolder_9 : decode cX9_isHolder 9 = .ok (.iconst 1, 1) := by decide +kernel
theorem dX9_isHolder_10 : decode cX9_isHolder 10 = .ok (.isub, 1) := by decide +kernel
theorem dX9_isHolder_11 : decode cX9_isHolder 11 = .ok (.i2l, 1) := by decide +kernel
theorem dX9_isHolder_12 : decode cX9_isHolder 12 = .ok (.invokestatic 57, 3) := by decide +kernel
theorem dX9_isHolder_15 : decode cX9_isHolder 15 = .ok (.ireturn, 1) := by decide +kernel
set_option maxRecDepth 20000 in
theorem ggX9_isCoin_X9_in : GoodIn wsX9_isCoin wsX9_in := goodIn_r _ [5] (by decide +kernel) (by decide +kernel)
set_option maxRecDepth 20000 in
theorem gX9_isCoin_X9_in : GoodIn wsX9_isCoin (va_wsS RX9 57 yX9_in wsX9_in) := goodIn_app (goodIn_of _ (by decide +kernel)) ggX9_isCoin_X9_in
theorem dX9_isCoin_0 : decode cX9_isCoin 0 = .ok (.iload_n 1, 1) := by decide +kernel
theorem dX9_isCoin_1 : decode cX9_isCoin 1 = .ok (.i2l, 1) := by decide +kernel
theorem dX9_isCoin_2 : decode cX9_isCoin 2 = .ok (.lconst 0, 1) := by decide +kernel
theorem dX9_isCoin_3 : decode cX9_isCoin 3 = .ok (.aload_n 0, 1) := by decide +kernel
theorem dX9_isCoin_4 : decode cX9_isCoin 4 = .ok (.getfield 19, 3) := by decide +kernel
theorem dX9_isCoin_7 : decode cX9_isCoin 7 = .ok (.iconst 3, 1) := by decide +kernel
theorem dX9_isCoin_8 : decode cX9_isCoin 8 = .ok (.iaload, 1) := by decide +kernel
theorem dX9_isCoin_9 : decode cX9_isCoin 9 = .ok (.iconst 1, 1) := by decide +kernel
theorem dX9_isCoin_10 : decode cX9_isCoin 10 = .ok (.isub, 1) := by decide +kernel
theorem dX9_isCoin_11 : decode cX9_isCoin 11 = .ok (.i2l, 1) := by decide +kernel
theorem dX9_isCoin_12 : decode cX9_isCoin 12 = .ok (.invokestatic 57, 3) := by decide +kernel
theorem dX9_isCoin_15 : decode cX9_isCoin 15 = .ok (.ireturn, 1) := by decide +kernel
theorem dX9_of_0 : decode cX9_of 0 = .ok (.aload_n 0, 1) := by decide +kernel
theorem dX9_of_1 : decode cX9_of 1 = .ok (.getfield 19, 3) := by decide +kernel
theorem dX9_of_4 : decode cX9_of 4 = .ok (.bipush 75, 2) := by decide +kernel
theorem dX9_of_6 : decode cX9_of 6 = .ok (.bipush 6, 2) := by decide +kernel
theorem dX9_of_8 : decode cX9_of 8 = .ok (.iload_n 1, 1) := by decide +kernel
theorem dX9_of_9 : decode cX9_of 9 = .ok (.imul, 1) := by decide +kernel
theorem dX9_of_10 : decode cX9_of 10 = .ok (.iadd, 1) := by decide +kernel
theorem dX9_of_11 : decode cX9_of 11 = .ok (.iload_n 2, 1) := by decide +kernel
theorem dX9_of_12 : decode cX9_of 12 = .ok (.iadd, 1) := by decide +kernel
theorem dX9_of_13 : decode cX9_of 13 = .ok (.iaload, 1) := by decide +kernel
theorem dX9_of_14 : decode cX9_of 14 = .ok (.ireturn, 1) := by decide +kernel
theorem dX9_becomes_0 : decode cX9_becomes 0 = .ok (.aload_n 0, 1) := by decide +kernel
theorem dX9_becomes_1 : decode cX9_becomes 1 = .ok (.getfield 19, 3) := by decide +kernel
theorem dX9_becomes_4 : decode cX9_becomes 4 = .ok (.bipush 75, 2) := by decide +kernel
theorem dX9_becomes_6 : decode cX9_becomes 6 = .ok (.bipush 6, 2) := by decide +kernel
theorem dX9_becomes_8 : decode cX9_becomes 8 = .ok (.iload_n 1, 1) := by decide +kernel
theorem dX9_becomes_9 : decode cX9_becomes 9 = .ok (.imul, 1) := by decide +kernel
theorem dX9_becomes_10 : decode cX9_becomes 10 = .ok (.iadd, 1) := by decide +kernel
theorem dX9_becomes_11 : decode cX9_becomes 11 = .ok (.iload_n 2, 1) := by decide +kernel
theorem dX9_becomes_12 : decode cX9_becomes 12 = .ok (.iadd, 1) := by decide +kernel
theorem dX9_becomes_13 : decode cX9_becomes 13 = .ok (.iload_n 3, 1) := by decide +kernel
theorem dX9_becomes_14 : decode cX9_becomes 14 = .ok (.iastore, 1) := by decide +kernel
theorem dX9_becomes_15 : decode cX9_becomes 15 = .ok (.return_, 1) := by decide +kernel
set_option maxRecDepth 20000 in
theorem ggX9_townOf_X9_of : GoodIn wsX9_townOf wsX9_of := goodIn_r _ [6, 1, 7, 8, 9, 10, 11, 12, 13, 14, 15, 16, 17, 18, 19, 20, 21, 22, 23, 24, 25, 26, 27, 28, 29, 30, 31, 32] (by decide +kernel) (by decide +kernel)
set_option maxRecDepth 20000 in
theorem gX9_townOf_X9_of : GoodIn wsX9_townOf (wsV RX9 189 RX9 yX9_of wsX9_of) := goodIn_app (goodIn_of _ (by decide +kernel)) ggX9_townOf_X9_of
theorem dX9_townOf_0 : decode cX9_townOf 0 = .ok (.aload_n 0, 1) := by decide +kernel
theorem dX9_townOf_1 : decode cX9_townOf 1 = .ok (.getfield 19, 3) := by decide +kernel
theorem dX9_townOf_4 : decode cX9_townOf 4 = .ok (.bipush 69, 2) := by decide +kernel
theorem dX9_townOf_6 : decode cX9_townOf 6 = .ok (.aload_n 0, 1) := by decide +kernel
theorem dX9_townOf_7 : decode cX9_townOf 7 = .ok (.iload_n 1, 1) := by decide +kernel
theorem dX9_townOf_8 : decode cX9_townOf 8 = .ok (.iconst 1, 1) := by decide +kernel
theorem dX9_townOf_9 : decode cX9_townOf 9 = .ok (.invokevirtual 189, 3) := by decide +kernel
theorem dX9_townOf_12 : decode cX9_townOf 12 = .ok (.iadd, 1) := by decide +kernel
theorem dX9_townOf_13 : decode cX9_townOf 13 = .ok (.iaload, 1) := by decide +kernel
theorem dX9_townOf_14 : decode cX9_townOf 14 = .ok (.ireturn, 1) := by decide +kernel
theorem dX9_farOf_0 : decode cX9_farOf 0 = .ok (.aload_n 0, 1) := by decide +kernel
theorem dX9_farOf_1 : decode cX9_farOf 1 = .ok (.getfield 19, 3) := by decide +kernel
theorem dX9_farOf_4 : decode cX9_farOf 4 = .ok (.iconst 5, 1) := by decide +kernel
theorem dX9_farOf_5 : decode cX9_farOf 5 = .ok (.bipush 8, 2) := by decide +kernel
theorem dX9_farOf_7 : decode cX9_farOf 7 = .ok (.iload_n 1, 1) := by decide +kernel
theorem dX9_farOf_8 : decode cX9_farOf 8 = .ok (.imul, 1) := by decide +kernel
theorem dX9_farOf_9 : decode cX9_farOf 9 = .ok (.iadd, 1) := by decide +kernel
theorem dX9_farOf_10 : decode cX9_farOf 10 = .ok (.iload_n 2, 1) := by decide +kernel
theorem dX9_farOf_11 : decode cX9_farOf 11 = .ok (.iadd, 1) := by decide +kernel
theorem dX9_farOf_12 : decode cX9_farOf 12 = .ok (.iaload, 1) := by decide +kernel
theorem dX9_farOf_13 : decode cX9_farOf 13 = .ok (.ireturn, 1) := by decide +kernel
set_option maxRecDepth 20000 in
theorem ggX9_spanOf_X9_of : GoodIn wsX9_spanOf wsX9_of := goodIn_r _ [6, 1, 7, 8, 9, 10, 11, 12, 13, 14, 15, 16, 17, 18, 19, 20, 21, 22, 23, 24, 25, 26, 27, 28, 29, 30, 31, 32] (by decide +kernel) (by decide +kernel)
set_option maxRecDepth 20000 in
theorem gX9_spanOf_X9_of : GoodIn wsX9_spanOf (wsV RX9 189 RX9 yX9_of wsX9_of) := goodIn_app (goodIn_of _ (by decide +kernel)) ggX9_spanOf_X9_of
theorem dX9_spanOf_0 : decode cX9_spanOf 0 = .ok (.aload_n 0, 1) := by decide +kernel
theorem dX9_spanOf_1 : decode cX9_spanOf 1 = .ok (.iload_n 1, 1) := by decide +kernel
theorem dX9_spanOf_2 : decode cX9_spanOf 2 = .ok (.iconst 0, 1) := by decide +kernel
theorem dX9_spanOf_3 : decode cX9_spanOf 3 = .ok (.invokevirtual 189, 3) := by decide +kernel
theorem dX9_spanOf_6 : decode cX9_spanOf 6 = .ok (.istore_n 2, 1) := by decide +kernel
theorem dX9_spanOf_7 : decode cX9_spanOf 7 = .ok (.iload_n 2, 1) := by decide +kernel
theorem dX9_spanOf_8 : decode cX9_spanOf 8 = .ok (.iconst 4, 1) := by decide +kernel
theorem dX9_spanOf_9 : decode cX9_spanOf 9 = .ok (.if_icmp .ne 14, 3) := by decide +kernel
theorem dX9_spanOf_12 : decode cX9_spanOf 12 = .ok (.aload_n 0, 1) := by decide +kernel
theorem dX9_spanOf_13 : decode cX9_spanOf 13 = .ok (.getfield 19, 3) := by decide +kernel
theorem dX9_spanOf_16 : decode cX9_spanOf 16 = .ok (.iconst 0, 1) := by decide +kernel
theorem dX9_spanOf_17 : decode cX9_spanOf 17 = .ok (.iaload, 1) := by decide +kernel
theorem dX9_spanOf_18 : decode cX9_spanOf 18 = .ok (.iconst 2, 1) := by decide +kernel
theorem dX9_spanOf_19 : decode cX9_spanOf 19 = .ok (.idiv, 1) := by decide +kernel
theorem dX9_spanOf_20 : decode cX9_spanOf 20 = .ok (.goto 32, 3) := by decide +kernel
theorem dX9_spanOf_23 : decode cX9_spanOf 23 = .ok (.iload_n 2, 1) := by decide +kernel
theorem dX9_spanOf_24 : decode cX9_spanOf 24 = .ok (.iconst 2, 1) := by decide +kernel
theorem dX9_spanOf_25 : decode cX9_spanOf 25 = .ok (.if_icmp .ne 21, 3) := by decide +kernel
theorem dX9_spanOf_28 : decode cX9_spanOf 28 = .ok (.aload_n 0, 1) := by decide +kernel
theorem dX9_spanOf_29 : decode cX9_spanOf 29 = .ok (.getfield 19, 3) := by decide +kernel
theorem dX9_spanOf_32 : decode cX9_spanOf 32 = .ok (.iconst 0, 1) := by decide +kernel
theorem dX9_spanOf_33 : decode cX9_spanOf 33 = .ok (.iaload, 1) := by decide +kernel
theorem dX9_spanOf_34 : decode cX9_spanOf 34 = .ok (.aload_n 0, 1) := by decide +kernel
theorem dX9_spanOf_35 : decode cX9_spanOf 35 = .ok (.getfield 19, 3) := by decide +kernel
theorem dX9_spanOf_38 : decode cX9_spanOf 38 = .ok (.iconst 0, 1) := by decide +kernel
theorem dX9_spanOf_39 : decode cX9_spanOf 39 = .ok (.iaload, 1) := by decide +kernel
theorem dX9_spanOf_40 : decode cX9_spanOf 40 = .ok (.iconst 2, 1) := by decide +kernel
theorem dX9_spanOf_41 : decode cX9_spanOf 41 = .ok (.idiv, 1) := by decide +kernel
theorem dX9_spanOf_42 : decode cX9_spanOf 42 = .ok (.iadd, 1) := by decide +kernel
theorem dX9_spanOf_43 : decode cX9_spanOf 43 = .ok (.goto 9, 3) := by decide +kernel
theorem dX9_spanOf_46 : decode cX9_spanOf 46 = .ok (.aload_n 0, 1) := by decide +kernel
theorem dX9_spanOf_47 : decode cX9_spanOf 47 = .ok (.getfield 19, 3) := by decide +kernel
theorem dX9_spanOf_50 : decode cX9_spanOf 50 = .ok (.iconst 0, 1) := by decide +kernel
theorem dX9_spanOf_51 : decode cX9_spanOf 51 = .ok (.iaload, 1) := by decide +kernel
theorem dX9_spanOf_52 : decode cX9_spanOf 52 = .ok (.ireturn, 1) := by decide +kernel
set_option maxRecDepth 20000 in
theorem ggX9_slackBy_X9_of : GoodIn wsX9_slackBy wsX9_of := goodIn_r _ [6, 7, 12, 13, 14, 15, 16, 17, 18, 19, 20, 21, 22, 23, 24, 25, 26, 27, 28, 29, 30, 31, 32, 33, 34, 35, 36, 37] (by decide +kernel) (by decide +kernel)
set_option maxRecDepth 20000 in
theorem gX9_slackBy_X9_of : GoodIn wsX9_slackBy (wsV RX9 189 RX9 yX9_of wsX9_of) := goodIn_app (goodIn_of _ (by decide +kernel)) ggX9_slackBy_X9_of
set_option maxRecDepth 20000 in
theorem ggX9_slackBy_X9_spanOf : GoodIn wsX9_slackBy wsX9_spanOf := goodIn_r _ [11, 7, 2, 3, 4, 5, 6, 12, 13, 14, 15, 16, 17, 18, 19, 20, 21, 22, 23, 24, 25, 26, 27, 28, 29, 30, 31, 32, 33, 34, 35, 36, 37] (by decide +kernel) (by decide +kernel)
set_option maxRecDepth 20000 in
theorem gX9_slackBy_X9_spanOf : GoodIn wsX9_slackBy (wsV RX9 192 RX9 yX9_spanOf wsX9_spanOf) := goodIn_app (goodIn_of _ (by decide +kernel)) ggX9_slackBy_X9_spanOf
theorem dX9_slackBy_0 : decode cX9_slackBy 0 = .ok (.aload_n 0, 1) := by decide +kernel
theorem dX9_slackBy_1 : decode cX9_slackBy 1 = .ok (.iload_n 1, 1) := by decide +kernel
theorem dX9_slackBy_2 : decode cX9_slackBy 2 = .ok (.iconst 5, 1) := by decide +kernel
theorem dX9_slackBy_3 : decode cX9_slackBy 3 = .ok (.invokevirtual 189, 3) := by decide +kernel
theorem dX9_slackBy_6 : decode cX9_slackBy 6 = .ok (.iconst 1, 1) := by decide +kernel
theorem dX9_slackBy_7 : decode cX9_slackBy 7 = .ok (.if_icmp .eq 30, 3) := by decide +kernel
theorem dX9_slackBy_10 : decode cX9_slackBy 10 = .ok (.aload_n 0, 1) := by decide +kernel
theorem dX9_slackBy_11 : decode cX9_slackBy 11 = .ok (.iload_n 1, 1) := by decide +kernel
theorem dX9_slackBy_12 : decode cX9_slackBy 12 = .ok (.iconst 0, 1) := by decide +kernel
theorem dX9_slackBy_13 : decode cX9_slackBy 13 = .ok (.invokevirtual 189, 3) := by decide +kernel
theorem dX9_slackBy_16 : decode cX9_slackBy 16 = .ok (.iconst 5, 1) := by decide +kernel
theorem dX9_slackBy_17 : decode cX9_slackBy 17 = .ok (.if_icmp .eq 20, 3) := by decide +kernel
theorem dX9_slackBy_20 : decode cX9_slackBy 20 = .ok (.aload_n 0, 1) := by decide +kernel
theorem dX9_slackBy_21 : decode cX9_slackBy 21 = .ok (.iload_n 1, 1) := by decide +kernel
theorem dX9_slackBy_22 : decode cX9_slackBy 22 = .ok (.iconst 3, 1) := by decide +kernel
theorem dX9_slackBy_23 : decode cX9_slackBy 23 = .ok (.invokevirtual 189, 3) := by decide +kernel
theorem dX9_slackBy_26 : decode cX9_slackBy 26 = .ok (.iconst 1, 1) := by decide +kernel
theorem dX9_slackBy_27 : decode cX9_slackBy 27 = .ok (.if_icmp .eq 13, 3) := by decide +kernel
theorem dX9_slackBy_30 : decode cX9_slackBy 30 = .ok (.iload_n 2, 1) := by decide +kernel
theorem dX9_slackBy_31 : decode cX9_slackBy 31 = .ok (.sipush 10000, 3) := by decide +kernel
theorem dX9_slackBy_34 : decode cX9_slackBy 34 = .ok (.if_icmp .lt 6, 3) := by decide +kernel
theorem dX9_slackBy_37 : decode cX9_slackBy 37 = .ok (.ldc 83, 2) := by decide +kernel
theorem dX9_slackBy_39 : decode cX9_slackBy 39 = .ok (.ireturn, 1) := by decide +kernel
theorem dX9_slackBy_40 : decode cX9_slackBy 40 = .ok (.aload_n 0, 1) := by decide +kernel
theorem dX9_slackBy_41 : decode cX9_slackBy 41 = .ok (.iload_n 1, 1) := by decide +kernel
theorem dX9_slackBy_42 : decode cX9_slackBy 42 = .ok (.iconst 3, 1) := by decide +kernel
theorem dX9_slackBy_43 : decode cX9_slackBy 43 = .ok (.invokevirtual 189, 3) := by decide +kernel
theorem dX9_slackBy_46 : decode cX9_slackBy 46 = .ok (.iconst 1, 1) := by decide +kernel
theorem dX9_slackBy_47 : decode cX9_slackBy 47 = .ok (.if_icmp .ne 12, 3) := by decide +kernel
theorem dX9_slackBy_50 : decode cX9_slackBy 50 = .ok (.aload_n 0, 1) := by decide +kernel
theorem dX9_slackBy_51 : decode cX9_slackBy 51 = .ok (.iload_n 1, 1) := by decide +kernel
theorem dX9_slackBy_52 : decode cX9_slackBy 52 = .ok (.iconst 4, 1) := by decide +kernel
theorem dX9_slackBy_53 : decode cX9_slackBy 53 = .ok (.invokevirtual 189, 3) := by decide +kernel
theorem dX9_slackBy_56 : decode cX9_slackBy 56 = .ok (.goto 11, 3) := by decide +kernel
theorem dX9_slackBy_59 : decode cX9_slackBy 59 = .ok (.iload_n 2, 1) := by decide +kernel
theorem dX9_slackBy_60 : decode cX9_slackBy 60 = .ok (.aload_n 0, 1) := by decide +kernel
theorem dX9_slackBy_61 : decode cX9_slackBy 61 = .ok (.iload_n 1, 1) := by decide +kernel
theorem dX9_slackBy_62 : decode cX9_slackBy 62 = .ok (.iconst 4, 1) := by decide +kernel
theorem dX9_slackBy_63 : decode cX9_slackBy 63 = .ok (.invokevirtual 189, 3) := by decide +kernel
theorem dX9_slackBy_66 : decode cX9_slackBy 66 = .ok (.iadd, 1) := by decide +kernel
theorem dX9_slackBy_67 : decode cX9_slackBy 67 = .ok (.istore_n 3, 1) := by decide +kernel
theorem dX9_slackBy_68 : decode cX9_slackBy 68 = .ok (.aload_n 0, 1) := by decide +kernel
theorem dX9_slackBy_69 : decode cX9_slackBy 69 = .ok (.iload_n 1, 1) := by decide +kernel
theorem dX9_slackBy_70 : decode cX9_slackBy 70 = .ok (.invokevirtual 192, 3) := by decide +kernel
theorem dX9_slackBy_73 : decode cX9_slackBy 73 = .ok (.aload_n 0, 1) := by decide +kernel
theorem dX9_slackBy_74 : decode cX9_slackBy 74 = .ok (.iload_n 1, 1) := by decide +kernel
theorem dX9_slackBy_75 : decode cX9_slackBy 75 = .ok (.iconst 2, 1) := by decide +kernel
theorem dX9_slackBy_76 : decode cX9_slackBy 76 = .ok (.invokevirtual 189, 3) := by decide +kernel
theorem dX9_slackBy_79 : decode cX9_slackBy 79 = .ok (.isub, 1) := by decide +kernel
theorem dX9_slackBy_80 : decode cX9_slackBy 80 = .ok (.iload_n 3, 1) := by decide +kernel
theorem dX9_slackBy_81 : decode cX9_slackBy 81 = .ok (.isub, 1) := by decide +kernel
theorem dX9_slackBy_82 : decode cX9_slackBy 82 = .ok (.ireturn, 1) := by decide +kernel
set_option maxRecDepth 20000 in
theorem ggX9_slackOf_X9_townOf : GoodIn wsX9_slackOf wsX9_townOf := goodIn_r _ [5, 6, 7, 8, 9, 4, 10, 24, 25, 26, 27, 28, 29, 30, 31, 32, 33, 34, 35, 36, 37, 38, 39, 40, 41, 42, 43, 44, 45, 46, 47, 48, 49] (by decide +kernel) (by decide +kernel)
set_option maxRecDepth 20000 in
theorem gX9_slackOf_X9_townOf : GoodIn wsX9_slackOf (wsV RX9 195 RX9 yX9_townOf wsX9_townOf) := goodIn_app (goodIn_of _ (by decide +kernel)) ggX9_slackOf_X9_townOf
set_option maxRecDepth 20000 in
theorem ggX9_slackOf_X9_farOf : GoodIn wsX9_slackOf wsX9_farOf := goodIn_r _ [14, 6, 24, 25, 26, 27, 28, 29, 30, 31, 32, 33, 34, 35, 36, 37, 38, 39, 40, 41, 42, 43, 44, 45, 46, 47, 48, 49] (by decide +kernel) (by decide +kernel)
set_option maxRecDepth 20000 in
theorem gX9_slackOf_X9_farOf : GoodIn wsX9_slackOf (wsV RX9 198 RX9 yX9_farOf wsX9_farOf) := goodIn_app (goodIn_of _ (by decide +kernel)) ggX9_slackOf_X9_farOf
set_option maxRecDepth 20000 in
theorem ggX9_slackOf_X9_slackBy : GoodIn wsX9_slackOf wsX9_slackBy := goodIn_r _ [18, 19, 7, 8, 9, 4, 10, 6, 20, 21, 22, 23, 24, 25, 26, 27, 28, 29, 30, 31, 32, 33, 34, 35, 36, 37, 38, 39, 40, 41, 42, 43, 44, 45, 46, 47, 48, 49] (by decide +kernel) (by decide +kernel)
set_option maxRecDepth 20000 in
theorem gX9_slackOf_X9_slackBy : GoodIn wsX9_slackOf (wsV RX9 201 RX9 yX9_slackBy wsX9_slackBy) := goodIn_app (goodIn_of _ (by decide +kernel)) ggX9_slackOf_X9_slackBy
theorem dX9_slackOf_0 : decode cX9_slackOf 0 = .ok (.aload_n 0, 1) := by decide +kernel
theorem dX9_slackOf_1 : decode cX9_slackOf 1 = .ok (.iload_n 1, 1) := by decide +kernel
theorem dX9_slackOf_2 : decode cX9_slackOf 2 = .ok (.aload_n 0, 1) := by decide +kernel
theorem dX9_slackOf_3 : decode cX9_slackOf 3 = .ok (.aload_n 0, 1) := by decide +kernel
theorem dX9_slackOf_4 : decode cX9_slackOf 4 = .ok (.iload_n 1, 1) := by decide +kernel
theorem dX9_slackOf_5 : decode cX9_slackOf 5 = .ok (.invokevirtual 195, 3) := by decide +kernel
theorem dX9_slackOf_8 : decode cX9_slackOf 8 = .ok (.iconst 0, 1) := by decide +kernel
theorem dX9_slackOf_9 : decode cX9_slackOf 9 = .ok (.invokevirtual 198, 3) := by decide +kernel
theorem dX9_slackOf_12 : decode cX9_slackOf 12 = .ok (.invokevirtual 201, 3) := by decide +kernel
theorem dX9_slackOf_15 : decode cX9_slackOf 15 = .ok (.ireturn, 1) := by decide +kernel
theorem dX9_keep_0 : decode cX9_keep 0 = .ok (.aload_n 0, 1) := by decide +kernel
theorem dX9_keep_1 : decode cX9_keep 1 = .ok (.getfield 183, 3) := by decide +kernel
theorem dX9_keep_4 : decode cX9_keep 4 = .ok (.bipush 24, 2) := by decide +kernel
theorem dX9_keep_6 : decode cX9_keep 6 = .ok (.if_icmp .ne 44, 3) := by decide +kernel
theorem dX9_keep_9 : decode cX9_keep 9 = .ok (.iconst 0, 1) := by decide +kernel
theorem dX9_keep_10 : decode cX9_keep 10 = .ok (.istore_n 1, 1) := by decide +kernel
theorem dX9_keep_11 : decode cX9_keep 11 = .ok (.iload_n 1, 1) := by decide +kernel
theorem dX9_keep_12 : decode cX9_keep 12 = .ok (.sipush 3381, 3) := by decide +kernel
theorem dX9_keep_15 : decode cX9_keep 15 = .ok (.if_icmp .ge 25, 3) := by decide +kernel
theorem dX9_keep_18 : decode cX9_keep 18 = .ok (.aload_n 0, 1) := by decide +kernel
theorem dX9_keep_19 : decode cX9_keep 19 = .ok (.getfield 25, 3) := by decide +kernel
theorem dX9_keep_22 : decode cX9_keep 22 = .ok (.iload_n 1, 1) := by decide +kernel
theorem dX9_keep_23 : decode cX9_keep 23 = .ok (.aload_n 0, 1) := by decide +kernel
theorem dX9_keep_24 : decode cX9_keep 24 = .ok (.getfield 25, 3) := by decide +kernel
theorem dX9_keep_27 : decode cX9_keep 27 = .ok (.iload_n 1, 1) := by decide +kernel
theorem dX9_keep_28 : decode cX9_keep 28 = .ok (.sipush 147, 3) := by decide +kernel
theorem dX9_keep_31 : decode cX9_keep 31 = .ok (.iadd, 1) := by decide +kernel
theorem dX9_keep_32 : decode cX9_keep 32 = .ok (.iaload, 1) := by decide +kernel
theorem dX9_keep_33 : decode cX9_keep 33 = .ok (.iastore, 1) := by decide +kernel
theorem dX9_keep_34 : decode cX9_keep 34 = .ok (.iinc 1 1, 3) := by decide +kernel
theorem dX9_keep_37 : decode cX9_keep 37 = .ok (.goto (-26), 3) := by decide +kernel
theorem dX9_keep_40 : decode cX9_keep 40 = .ok (.aload_n 0, 1) := by decide +kernel
theorem dX9_keep_41 : decode cX9_keep 41 = .ok (.dup, 1) := by decide +kernel
theorem dX9_keep_42 : decode cX9_keep 42 = .ok (.getfield 183, 3) := by decide +kernel
theorem dX9_keep_45 : decode cX9_keep 45 = .ok (.iconst 1, 1) := by decide +kernel
theorem dX9_keep_46 : decode cX9_keep 46 = .ok (.isub, 1) := by decide +kernel
theorem dX9_keep_47 : decode cX9_keep 47 = .ok (.putfield 183, 3) := by decide +kernel
theorem dX9_keep_50 : decode cX9_keep 50 = .ok (.iconst 0, 1) := by decide +kernel
theorem dX9_keep_51 : decode cX9_keep 51 = .ok (.istore_n 1, 1) := by decide +kernel
theorem dX9_keep_52 : decode cX9_keep 52 = .ok (.iload_n 1, 1) := by decide +kernel
theorem dX9_keep_53 : decode cX9_keep 53 = .ok (.sipush 147, 3) := by decide +kernel
theorem dX9_keep_56 : decode cX9_keep 56 = .ok (.if_icmp .ge 30, 3) := by decide +kernel
theorem dX9_keep_59 : decode cX9_keep 59 = .ok (.aload_n 0, 1) := by decide +kernel
theorem dX9_keep_60 : decode cX9_keep 60 = .ok (.getfield 25, 3) := by decide +kernel
theorem dX9_keep_63 : decode cX9_keep 63 = .ok (.sipush 147, 3) := by decide +kernel
theorem dX9_keep_66 : decode cX9_keep 66 = .ok (.aload_n 0, 1) := by decide +kernel
theorem dX9_keep_67 : decode cX9_keep 67 = .ok (.getfield 183, 3) := by decide +kernel
theorem dX9_keep_70 : decode cX9_keep 70 = .ok (.imul, 1) := by decide +kernel
theorem dX9_keep_71 : decode cX9_keep 71 = .ok (.iload_n 1, 1) := by decide +kernel
theorem dX9_keep_72 : decode cX9_keep 72 = .ok (.iadd, 1) := by decide +kernel
theorem dX9_keep_73 : decode cX9_keep 73 = .ok (.aload_n 0, 1) := by decide +kernel
theorem dX9_keep_74 : decode cX9_keep 74 = .ok (.getfield 19, 3) := by decide +kernel
theorem dX9_keep_77 : decode cX9_keep 77 = .ok (.iload_n 1, 1) := by decide +kernel
theorem dX9_keep_78 : decode cX9_keep 78 = .ok (.iaload, 1) := by decide +kernel
theorem dX9_keep_79 : decode cX9_keep 79 = .ok (.iastore, 1) := by decide +kernel
theorem dX9_keep_80 : decode cX9_keep 80 = .ok (.iinc 1 1, 3) := by decide +kernel
theorem dX9_keep_83 : decode cX9_keep 83 = .ok (.goto (-31), 3) := by decide +kernel
theorem dX9_keep_86 : decode cX9_keep 86 = .ok (.aload_n 0, 1) := by decide +kernel
theorem dX9_keep_87 : decode cX9_keep 87 = .ok (.dup, 1) := by decide +kernel
theorem dX9_keep_88 : decode cX9_keep 88 = .ok (.getfield 183, 3) := by decide +kernel
theorem dX9_keep_91 : decode cX9_keep 91 = .ok (.iconst 1, 1) := by decide +kernel
theorem dX9_keep_92 : decode cX9_keep 92 = .ok (.iadd, 1) := by decide +kernel
theorem dX9_keep_93 : decode cX9_keep 93 = .ok (.putfield 183, 3) := by decide +kernel
theorem dX9_keep_96 : decode cX9_keep 96 = .ok (.return_, 1) := by decide +kernel
set_option maxRecDepth 20000 in
theorem ggX9_pass_X9_isCoin : GoodIn wsX9_pass wsX9_isCoin := goodIn_r _ [9, 3, 10, 11, 8, 12, 35, 36, 37, 38, 39, 40, 41, 42, 43, 44, 45, 46, 47, 48, 49, 50, 51, 52, 53, 54, 55, 56, 57, 58, 59, 60] (by decide +kernel) (by decide +kernel)
set_option maxRecDepth 20000 in
theorem gX9_pass_X9_isCoin : GoodIn wsX9_pass (wsV RX9 204 RX9 yX9_isCoin wsX9_isCoin) := goodIn_app (goodIn_of _ (by decide +kernel)) ggX9_pass_X9_isCoin
set_option maxRecDepth 20000 in
theorem ggX9_pass_X9_isHolder : GoodIn wsX9_pass wsX9_isHolder := goodIn_r _ [16, 3, 10, 11, 8, 12, 35, 36, 37, 38, 39, 40, 41, 42, 43, 44, 45, 46, 47, 48, 49, 50, 51, 52, 53, 54, 55, 56, 57, 58, 59, 60] (by decide +kernel) (by decide +kernel)
set_option maxRecDepth 20000 in
theorem gX9_pass_X9_isHolder : GoodIn wsX9_pass (wsV RX9 207 RX9 yX9_isHolder wsX9_isHolder) := goodIn_app (goodIn_of _ (by decide +kernel)) ggX9_pass_X9_isHolder
set_option maxRecDepth 20000 in
theorem ggX9_pass_X9_of : GoodIn wsX9_pass wsX9_of := goodIn_r _ [20, 3, 35, 36, 37, 38, 39, 40, 41, 42, 43, 44, 45, 46, 47, 48, 49, 50, 51, 52, 53, 54, 55, 56, 57, 58, 59, 60] (by decide +kernel) (by decide +kernel)
set_option maxRecDepth 20000 in
theorem gX9_pass_X9_of : GoodIn wsX9_pass (wsV RX9 189 RX9 yX9_of wsX9_of) := goodIn_app (goodIn_of _ (by decide +kernel)) ggX9_pass_X9_of
set_option maxRecDepth 20000 in
theorem ggX9_pass_X9_townOf : GoodIn wsX9_pass wsX9_townOf := goodIn_r _ [24, 3, 17, 18, 19, 8, 20, 35, 36, 37, 38, 39, 40, 41, 42, 43, 44, 45, 46, 47, 48, 49, 50, 51, 52, 53, 54, 55, 56, 57, 58, 59, 60] (by decide +kernel) (by decide +kernel)
set_option maxRecDepth 20000 in
theorem gX9_pass_X9_townOf : GoodIn wsX9_pass (wsV RX9 195 RX9 yX9_townOf wsX9_townOf) := goodIn_app (goodIn_of _ (by decide +kernel)) ggX9_pass_X9_townOf
set_option maxRecDepth 20000 in
theorem ggX9_pass_X9_keep : GoodIn wsX9_pass wsX9_keep := goodIn_r _ [28, 29, 30, 3, 35, 36, 37, 38, 39, 40, 41, 42, 43, 44, 45, 46, 47, 48, 49, 50, 51, 52, 53, 54, 55, 56, 57, 58, 59, 60] (by decide +kernel) (by decide +kernel)
set_option maxRecDepth 20000 in
theorem gX9_pass_X9_keep : GoodIn wsX9_pass (wsV RX9 211 RX9 yX9_keep wsX9_keep) := goodIn_app (goodIn_of _ (by decide +kernel)) ggX9_pass_X9_keep
set_option maxRecDepth 20000 in
theorem ggX9_pass_X9_becomes : GoodIn wsX9_pass wsX9_becomes := goodIn_r _ [34, 3, 35, 36, 37, 38, 39, 40, 41, 42, 43, 44, 45, 46, 47, 48, 49, 50, 51, 52, 53, 54, 55, 56, 57, 58, 59, 60] (by decide +kernel) (by decide +kernel)
set_option maxRecDepth 20000 in
theorem gX9_pass_X9_becomes : GoodIn wsX9_pass (wsV RX9 214 RX9 yX9_becomes wsX9_becomes) := goodIn_app (goodIn_of _ (by decide +kernel)) ggX9_pass_X9_becomes
theorem dX9_pass_0 : decode cX9_pass 0 = .ok (.aload_n 0, 1) := by decide +kernel
theorem dX9_pass_1 : decode cX9_pass 1 = .ok (.iconst 0, 1) := by decide +kernel
theorem dX9_pass_2 : decode cX9_pass 2 = .ok (.putfield 47, 3) := by decide +kernel
theorem dX9_pass_5 : decode cX9_pass 5 = .ok (.aload_n 0, 1) := by decide +kernel
theorem dX9_pass_6 : decode cX9_pass 6 = .ok (.iload_n 1, 1) := by decide +kernel
theorem dX9_pass_7 : decode cX9_pass 7 = .ok (.invokevirtual 204, 3) := by decide +kernel
theorem dX9_pass_10 : decode cX9_pass 10 = .ok (.ifCond .eq 21, 3) := by decide +kernel
theorem dX9_pass_13 : decode cX9_pass 13 = .ok (.aload_n 0, 1) := by decide +kernel
theorem dX9_pass_14 : decode cX9_pass 14 = .ok (.iload_n 2, 1) := by decide +kernel
theorem dX9_pass_15 : decode cX9_pass 15 = .ok (.invokevirtual 207, 3) := by decide +kernel
theorem dX9_pass_18 : decode cX9_pass 18 = .ok (.ifCond .eq 13, 3) := by decide +kernel
theorem dX9_pass_21 : decode cX9_pass 21 = .ok (.aload_n 0, 1) := by decide +kernel
theorem dX9_pass_22 : decode cX9_pass 22 = .ok (.iload_n 1, 1) := by decide +kernel
theorem dX9_pass_23 : decode cX9_pass 23 = .ok (.iconst 1, 1) := by decide +kernel
theorem dX9_pass_24 : decode cX9_pass 24 = .ok (.invokevirtual 189, 3) := by decide +kernel
theorem dX9_pass_27 : decode cX9_pass 27 = .ok (.iload_n 2, 1) := by decide +kernel
theorem dX9_pass_28 : decode cX9_pass 28 = .ok (.if_icmp .ne 6, 3) := by decide +kernel
theorem dX9_pass_31 : decode cX9_pass 31 = .ok (.ldc 67, 2) := by decide +kernel
theorem dX9_pass_33 : decode cX9_pass 33 = .ok (.ireturn, 1) := by decide +kernel
theorem dX9_pass_34 : decode cX9_pass 34 = .ok (.aload_n 0, 1) := by decide +kernel
theorem dX9_pass_35 : decode cX9_pass 35 = .ok (.iload_n 1, 1) := by decide +kernel
theorem dX9_pass_36 : decode cX9_pass 36 = .ok (.iconst 3, 1) := by decide +kernel
theorem dX9_pass_37 : decode cX9_pass 37 = .ok (.invokevirtual 189, 3) := by decide +kernel
theorem dX9_pass_40 : decode cX9_pass 40 = .ok (.ifCond .ne 20, 3) := by decide +kernel
theorem dX9_pass_43 : decode cX9_pass 43 = .ok (.aload_n 0, 1) := by decide +kernel
theorem dX9_pass_44 : decode cX9_pass 44 = .ok (.getfield 19, 3) := by decide +kernel
theorem dX9_pass_47 : decode cX9_pass 47 = .ok (.bipush 69, 2) := by decide +kernel
theorem dX9_pass_49 : decode cX9_pass 49 = .ok (.iload_n 2, 1) := by decide +kernel
theorem dX9_pass_50 : decode cX9_pass 50 = .ok (.iadd, 1) := by decide +kernel
theorem dX9_pass_51 : decode cX9_pass 51 = .ok (.iaload, 1) := by decide +kernel
theorem dX9_pass_52 : decode cX9_pass 52 = .ok (.aload_n 0, 1) := by decide +kernel
theorem dX9_pass_53 : decode cX9_pass 53 = .ok (.iload_n 1, 1) := by decide +kernel
theorem dX9_pass_54 : decode cX9_pass 54 = .ok (.invokevirtual 195, 3) := by decide +kernel
theorem dX9_pass_57 : decode cX9_pass 57 = .ok (.if_icmp .eq 6, 3) := by decide +kernel
theorem dX9_pass_60 : decode cX9_pass 60 = .ok (.ldc 210, 2) := by decide +kernel
theorem dX9_pass_62 : decode cX9_pass 62 = .ok (.ireturn, 1) := by decide +kernel
theorem dX9_pass_63 : decode cX9_pass 63 = .ok (.aload_n 0, 1) := by decide +kernel
theorem dX9_pass_64 : decode cX9_pass 64 = .ok (.invokevirtual 211, 3) := by decide +kernel
theorem dX9_pass_67 : decode cX9_pass 67 = .ok (.aload_n 0, 1) := by decide +kernel
theorem dX9_pass_68 : decode cX9_pass 68 = .ok (.iload_n 1, 1) := by decide +kernel
theorem dX9_pass_69 : decode cX9_pass 69 = .ok (.iconst 1, 1) := by decide +kernel
theorem dX9_pass_70 : decode cX9_pass 70 = .ok (.invokevirtual 189, 3) := by decide +kernel
theorem dX9_pass_73 : decode cX9_pass 73 = .ok (.istore_n 3, 1) := by decide +kernel
theorem dX9_pass_74 : decode cX9_pass 74 = .ok (.aload_n 0, 1) := by decide +kernel
theorem dX9_pass_75 : decode cX9_pass 75 = .ok (.iload_n 1, 1) := by decide +kernel
theorem dX9_pass_76 : decode cX9_pass 76 = .ok (.iconst 1, 1) := by decide +kernel
theorem dX9_pass_77 : decode cX9_pass 77 = .ok (.iload_n 2, 1) := by decide +kernel
theorem dX9_pass_78 : decode cX9_pass 78 = .ok (.invokevirtual 214, 3) := by decide +kernel
theorem dX9_pass_81 : decode cX9_pass 81 = .ok (.iload_n 3, 1) := by decide +kernel
theorem dX9_pass_82 : decode cX9_pass 82 = .ok (.ireturn, 1) := by decide +kernel
set_option maxRecDepth 20000 in
theorem ggX9_maySend_X9_of : GoodIn wsX9_maySend wsX9_of := goodIn_r _ [5, 6, 15, 16, 17, 18, 19, 20, 21, 22, 23, 24, 25, 26, 27, 28, 29, 30, 31, 32, 33, 34, 35, 36, 37, 38, 39, 40] (by decide +kernel) (by decide +kernel)
set_option maxRecDepth 20000 in
theorem gX9_maySend_X9_of : GoodIn wsX9_maySend (wsV RX9 189 RX9 yX9_of wsX9_of) := goodIn_app (goodIn_of _ (by decide +kernel)) ggX9_maySend_X9_of
set_option maxRecDepth 20000 in
theorem ggX9_maySend_X9_townOf : GoodIn wsX9_maySend wsX9_townOf := goodIn_r _ [10, 6, 1, 2, 3, 4, 5, 15, 16, 17, 18, 19, 20, 21, 22, 23, 24, 25, 26, 27, 28, 29, 30, 31, 32, 33, 34, 35, 36, 37, 38, 39, 40] (by decide +kernel) (by decide +kernel)
set_option maxRecDepth 20000 in
theorem gX9_maySend_X9_townOf : GoodIn wsX9_maySend (wsV RX9 195 RX9 yX9_townOf wsX9_townOf) := goodIn_app (goodIn_of _ (by decide +kernel)) ggX9_maySend_X9_townOf
set_option maxRecDepth 20000 in
theorem ggX9_maySend_X9_farOf : GoodIn wsX9_maySend wsX9_farOf := goodIn_r _ [14, 6, 15, 16, 17, 18, 19, 20, 21, 22, 23, 24, 25, 26, 27, 28, 29, 30, 31, 32, 33, 34, 35, 36, 37, 38, 39, 40] (by decide +kernel) (by decide +kernel)
set_option maxRecDepth 20000 in
theorem gX9_maySend_X9_farOf : GoodIn wsX9_maySend (wsV RX9 198 RX9 yX9_farOf wsX9_farOf) := goodIn_app (goodIn_of _ (by decide +kernel)) ggX9_maySend_X9_farOf
theorem dX9_maySend_0 : decode cX9_maySend 0 = .ok (.aload_n 0, 1) := by decide +kernel
theorem dX9_maySend_1 : decode cX9_maySend 1 = .ok (.iload_n 1, 1) := by decide +kernel
theorem dX9_maySend_2 : decode cX9_maySend 2 = .ok (.iconst 3, 1) := by decide +kernel
theorem dX9_maySend_3 : decode cX9_maySend 3 = .ok (.invokevirtual 189, 3) := by decide +kernel
theorem dX9_maySend_6 : decode cX9_maySend 6 = .ok (.ifCond .ne 23, 3) := by decide +kernel
theorem dX9_maySend_9 : decode cX9_maySend 9 = .ok (.aload_n 0, 1) := by decide +kernel
theorem dX9_maySend_10 : decode cX9_maySend 10 = .ok (.aload_n 0, 1) := by decide +kernel
theorem dX9_maySend_11 : decode cX9_maySend 11 = .ok (.iload_n 1, 1) := by decide +kernel
theorem dX9_maySend_12 : decode cX9_maySend 12 = .ok (.invokevirtual 195, 3) := by decide +kernel
theorem dX9_maySend_15 : decode cX9_maySend 15 = .ok (.iconst 0, 1) := by decide +kernel
theorem dX9_maySend_16 : decode cX9_maySend 16 = .ok (.invokevirtual 198, 3) := by decide +kernel
theorem dX9_maySend_19 : decode cX9_maySend 19 = .ok (.sipush 10000, 3) := by decide +kernel
theorem dX9_maySend_22 : decode cX9_maySend 22 = .ok (.if_icmp .ge 7, 3) := by decide +kernel
theorem dX9_maySend_25 : decode cX9_maySend 25 = .ok (.iconst 1, 1) := by decide +kernel
theorem dX9_maySend_26 : decode cX9_maySend 26 = .ok (.goto 4, 3) := by decide +kernel
theorem dX9_maySend_29 : decode cX9_maySend 29 = .ok (.iconst 0, 1) := by decide +kernel
theorem dX9_maySend_30 : decode cX9_maySend 30 = .ok (.ireturn, 1) := by decide +kernel
set_option maxRecDepth 20000 in
theorem ggX9_sends_X9_keep : GoodIn wsX9_sends wsX9_keep := goodIn_r _ [5, 6, 7, 8, 25, 26, 27, 28, 29, 30, 31, 32, 33, 34, 35, 36, 37, 38, 39, 40, 41, 42, 43, 44, 45, 46, 47, 48, 49, 50] (by decide +kernel) (by decide +kernel)
set_option maxRecDepth 20000 in
theorem gX9_sends_X9_keep : GoodIn wsX9_sends (wsV RX9 211 RX9 yX9_keep wsX9_keep) := goodIn_app (goodIn_of _ (by decide +kernel)) ggX9_sends_X9_keep
set_option maxRecDepth 20000 in
theorem ggX9_sends_X9_becomes : GoodIn wsX9_sends wsX9_becomes := goodIn_r _ [12, 8, 25, 26, 27, 28, 29, 30, 31, 32, 33, 34, 35, 36, 37, 38, 39, 40, 41, 42, 43, 44, 45, 46, 47, 48, 49, 50] (by decide +kernel) (by decide +kernel)
set_option maxRecDepth 20000 in
theorem gX9_sends_X9_becomes : GoodIn wsX9_sends (wsV RX9 214 RX9 yX9_becomes wsX9_becomes) := goodIn_app (goodIn_of _ (by decide +kernel)) ggX9_sends_X9_becomes
set_option maxRecDepth 20000 in
theorem ggX9_sends_X9_townOf : GoodIn wsX9_sends wsX9_townOf := goodIn_r _ [16, 8, 17, 18, 19, 4, 20, 25, 26, 27, 28, 29, 30, 31, 32, 33, 34, 35, 36, 37, 38, 39, 40, 41, 42, 43, 44, 45, 46, 47, 48, 49, 50] (by decide +kernel) (by decide +kernel)
set_option maxRecDepth 20000 in
theorem gX9_sends_X9_townOf : GoodIn wsX9_sends (wsV RX9 195 RX9 yX9_townOf wsX9_townOf) := goodIn_app (goodIn_of _ (by decide +kernel)) ggX9_sends_X9_townOf
set_option maxRecDepth 20000 in
theorem ggX9_sends_X9_farOf : GoodIn wsX9_sends wsX9_farOf := goodIn_r _ [24, 8, 25, 26, 27, 28, 29, 30, 31, 32, 33, 34, 35, 36, 37, 38, 39, 40, 41, 42, 43, 44, 45, 46, 47, 48, 49, 50] (by decide +kernel) (by decide +kernel)
set_option maxRecDepth 20000 in
theorem gX9_sends_X9_farOf : GoodIn wsX9_sends (wsV RX9 198 RX9 yX9_farOf wsX9_farOf) := goodIn_app (goodIn_of _ (by decide +kernel)) ggX9_sends_X9_farOf
theorem dX9_sends_0 : decode cX9_sends 0 = .ok (.aload_n 0, 1) := by decide +kernel
theorem dX9_sends_1 : decode cX9_sends 1 = .ok (.invokevirtual 211, 3) := by decide +kernel
theorem dX9_sends_4 : decode cX9_sends 4 = .ok (.aload_n 0, 1) := by decide +kernel
theorem dX9_sends_5 : decode cX9_sends 5 = .ok (.iload_n 1, 1) := by decide +kernel
theorem dX9_sends_6 : decode cX9_sends 6 = .ok (.iconst 3, 1) := by decide +kernel
theorem dX9_sends_7 : decode cX9_sends 7 = .ok (.iconst 1, 1) := by decide +kernel
theorem dX9_sends_8 : decode cX9_sends 8 = .ok (.invokevirtual 214, 3) := by decide +kernel
theorem dX9_sends_11 : decode cX9_sends 11 = .ok (.aload_n 0, 1) := by decide +kernel
theorem dX9_sends_12 : decode cX9_sends 12 = .ok (.iload_n 1, 1) := by decide +kernel
theorem dX9_sends_13 : decode cX9_sends 13 = .ok (.iconst 4, 1) := by decide +kernel
theorem dX9_sends_14 : decode cX9_sends 14 = .ok (.aload_n 0, 1) := by decide +kernel
theorem dX9_sends_15 : decode cX9_sends 15 = .ok (.aload_n 0, 1) := by decide +kernel
theorem dX9_sends_16 : decode cX9_sends 16 = .ok (.iload_n 1, 1) := by decide +kernel
theorem dX9_sends_17 : decode cX9_sends 17 = .ok (.invokevirtual 195, 3) := by decide +kernel
theorem dX9_sends_20 : decode cX9_sends 20 = .ok (.iconst 0, 1) := by decide +kernel
theorem dX9_sends_21 : decode cX9_sends 21 = .ok (.invokevirtual 198, 3) := by decide +kernel
theorem dX9_sends_24 : decode cX9_sends 24 = .ok (.invokevirtual 214, 3) := by decide +kernel
theorem dX9_sends_27 : decode cX9_sends 27 = .ok (.return_, 1) := by decide +kernel
set_option maxRecDepth 20000 in
theorem ggX9_send_X9_isCoin : GoodIn wsX9_send wsX9_isCoin := goodIn_r _ [8, 9, 10, 11, 7, 12, 43, 44, 45, 46, 47, 48, 49, 50, 51, 52, 53, 54, 55, 56, 57, 58, 59, 60, 61, 62, 63, 64, 65, 66, 67, 68] (by decide +kernel) (by decide +kernel)
set_option maxRecDepth 20000 in
theorem gX9_send_X9_isCoin : GoodIn wsX9_send (wsV RX9 204 RX9 yX9_isCoin wsX9_isCoin) := goodIn_app (goodIn_of _ (by decide +kernel)) ggX9_send_X9_isCoin
set_option maxRecDepth 20000 in
theorem ggX9_send_X9_maySend : GoodIn wsX9_send wsX9_maySend := goodIn_r _ [16, 17, 18, 19, 7, 20, 9, 21, 22, 23, 24, 25, 26, 27, 28, 43, 44, 45, 46, 47, 48, 49, 50, 51, 52, 53, 54, 55, 56, 57, 58, 59, 60, 61, 62, 63, 64, 65, 66, 67, 68] (by decide +kernel) (by decide +kernel)
set_option maxRecDepth 20000 in
theorem gX9_send_X9_maySend : GoodIn wsX9_send (wsV RX9 218 RX9 yX9_maySend wsX9_maySend) := goodIn_app (goodIn_of _ (by decide +kernel)) ggX9_send_X9_maySend
set_option maxRecDepth 20000 in
theorem ggX9_send_X9_sends : GoodIn wsX9_send wsX9_sends := goodIn_r _ [32, 33, 34, 35, 7, 36, 37, 38, 9, 39, 40, 41, 42, 21, 22, 23, 24, 17, 18, 19, 20, 25, 26, 27, 28, 43, 44, 45, 46, 47, 48, 49, 50, 51, 52, 53, 54, 55, 56, 57, 58, 59, 60, 61, 62, 63, 64, 65, 66, 67, 68] (by decide +kernel) (by decide +kernel)
set_option maxRecDepth 20000 in
theorem gX9_send_X9_sends : GoodIn wsX9_send (wsV RX9 221 RX9 yX9_sends wsX9_sends) := goodIn_app (goodIn_of _ (by decide +kernel)) ggX9_send_X9_sends
set_option maxRecDepth 20000 in
theorem ggX9_send_X9_of : GoodIn wsX9_send wsX9_of := goodIn_r _ [20, 9, 43, 44, 45, 46, 47, 48, 49, 50, 51, 52, 53, 54, 55, 56, 57, 58, 59, 60, 61, 62, 63, 64, 65, 66, 67, 68] (by decide +kernel) (by decide +kernel)
set_option maxRecDepth 20000 in
theorem gX9_send_X9_of : GoodIn wsX9_send (wsV RX9 189 RX9 yX9_of wsX9_of) := goodIn_app (goodIn_of _ (by decide +kernel)) ggX9_send_X9_of
theorem dX9_send_0 : decode cX9_send 0 = .ok (.aload_n 0, 1) := by decide +kernel
theorem dX9_send_1 : decode cX9_send 1 = .ok (.iconst 0, 1) := by decide +kernel
theorem dX9_send_2 : decode cX9_send 2 = .ok (.putfield 47, 3) := by decide +kernel
theorem dX9_send_5 : decode cX9_send 5 = .ok (.aload_n 0, 1) := by decide +kernel
theorem dX9_send_6 : decode cX9_send 6 = .ok (.iload_n 1, 1) := by decide +kernel
theorem dX9_send_7 : decode cX9_send 7 = .ok (.invokevirtual 204, 3) := by decide +kernel
theorem dX9_send_10 : decode cX9_send 10 = .ok (.ifCond .ne 6, 3) := by decide +kernel
theorem dX9_send_13 : decode cX9_send 13 = .ok (.ldc 67, 2) := by decide +kernel
theorem dX9_send_15 : decode cX9_send 15 = .ok (.ireturn, 1) := by decide +kernel
theorem dX9_send_16 : decode cX9_send 16 = .ok (.aload_n 0, 1) := by decide +kernel
theorem dX9_send_17 : decode cX9_send 17 = .ok (.iload_n 1, 1) := by decide +kernel
theorem dX9_send_18 : decode cX9_send 18 = .ok (.invokevirtual 218, 3) := by decide +kernel
theorem dX9_send_21 : decode cX9_send 21 = .ok (.ifCond .ne 6, 3) := by decide +kernel
theorem dX9_send_24 : decode cX9_send 24 = .ok (.ldc 210, 2) := by decide +kernel
theorem dX9_send_26 : decode cX9_send 26 = .ok (.ireturn, 1) := by decide +kernel
theorem dX9_send_27 : decode cX9_send 27 = .ok (.aload_n 0, 1) := by decide +kernel
theorem dX9_send_28 : decode cX9_send 28 = .ok (.iload_n 1, 1) := by decide +kernel
theorem dX9_send_29 : decode cX9_send 29 = .ok (.invokevirtual 221, 3) := by decide +kernel
theorem dX9_send_32 : decode cX9_send 32 = .ok (.aload_n 0, 1) := by decide +kernel
theorem dX9_send_33 : decode cX9_send 33 = .ok (.iload_n 1, 1) := by decide +kernel
theorem dX9_send_34 : decode cX9_send 34 = .ok (.iconst 4, 1) := by decide +kernel
theorem dX9_send_35 : decode cX9_send 35 = .ok (.invokevirtual 189, 3) := by decide +kernel
theorem dX9_send_38 : decode cX9_send 38 = .ok (.ireturn, 1) := by decide +kernel
set_option maxRecDepth 20000 in
theorem ggX9_sendAll_X9_isRow : GoodIn wsX9_sendAll wsX9_isRow := goodIn_r _ [13, 14, 15, 16, 12, 17] (by decide +kernel) (by decide +kernel)
set_option maxRecDepth 20000 in
theorem gX9_sendAll_X9_isRow : GoodIn wsX9_sendAll (va_wsS RX9 61 yX9_isRow wsX9_isRow) := goodIn_app (goodIn_of _ (by decide +kernel)) ggX9_sendAll_X9_isRow
set_option maxRecDepth 20000 in
theorem ggX9_sendAll_X9_in : GoodIn wsX9_sendAll wsX9_in := goodIn_r _ [17] (by decide +kernel) (by decide +kernel)
set_option maxRecDepth 20000 in
theorem gX9_sendAll_X9_in : GoodIn wsX9_sendAll (va_wsS RX9 57 yX9_in wsX9_in) := goodIn_app (goodIn_of _ (by decide +kernel)) ggX9_sendAll_X9_in
set_option maxRecDepth 20000 in
theorem ggX9_sendAll_X9_finding : GoodIn wsX9_sendAll wsX9_finding := goodIn_r _ [21, 9, 22, 58, 59, 60, 61, 62, 63, 64, 65, 66, 67, 68, 69, 70, 71, 72, 73, 74, 75, 76, 77, 78, 79, 80, 81, 82, 83] (by decide +kernel) (by decide +kernel)
set_option maxRecDepth 20000 in
theorem gX9_sendAll_X9_finding : GoodIn wsX9_sendAll (wsV RX9 68 RX9 yX9_finding wsX9_finding) := goodIn_app (goodIn_of _ (by decide +kernel)) ggX9_sendAll_X9_finding
set_option maxRecDepth 20000 in
theorem ggX9_sendAll_X9_isCoin : GoodIn wsX9_sendAll wsX9_isCoin := goodIn_r _ [26, 27, 15, 16, 12, 17, 58, 59, 60, 61, 62, 63, 64, 65, 66, 67, 68, 69, 70, 71, 72, 73, 74, 75, 76, 77, 78, 79, 80, 81, 82, 83] (by decide +kernel) (by decide +kernel)
set_option maxRecDepth 20000 in
theorem gX9_sendAll_X9_isCoin : GoodIn wsX9_sendAll (wsV RX9 204 RX9 yX9_isCoin wsX9_isCoin) := goodIn_app (goodIn_of _ (by decide +kernel)) ggX9_sendAll_X9_isCoin
set_option maxRecDepth 20000 in
theorem ggX9_sendAll_X9_maySend : GoodIn wsX9_sendAll wsX9_maySend := goodIn_r _ [31, 32, 33, 34, 12, 35, 27, 36, 37, 38, 39, 40, 41, 42, 43, 58, 59, 60, 61, 62, 63, 64, 65, 66, 67, 68, 69, 70, 71, 72, 73, 74, 75, 76, 77, 78, 79, 80, 81, 82, 83] (by decide +kernel) (by decide +kernel)
set_option maxRecDepth 20000 in
theorem gX9_sendAll_X9_maySend : GoodIn wsX9_sendAll (wsV RX9 218 RX9 yX9_maySend wsX9_maySend) := goodIn_app (goodIn_of _ (by decide +kernel)) ggX9_sendAll_X9_maySend
set_option maxRecDepth 20000 in
theorem ggX9_sendAll_X9_sends : GoodIn wsX9_sendAll wsX9_sends := goodIn_r _ [47, 48, 49, 50, 12, 51, 52, 53, 27, 54, 55, 56, 57, 36, 37, 38, 39, 32, 33, 34, 35, 40, 41, 42, 43, 58, 59, 60, 61, 62, 63, 64, 65, 66, 67, 68, 69, 70, 71, 72, 73, 74, 75, 76, 77, 78, 79, 80, 81, 82, 83] (by decide +kernel) (by decide +kernel)
set_option maxRecDepth 20000 in
theorem gX9_sendAll_X9_sends : GoodIn wsX9_sendAll (wsV RX9 221 RX9 yX9_sends wsX9_sends) := goodIn_app (goodIn_of _ (by decide +kernel)) ggX9_sendAll_X9_sends
theorem dX9_sendAll_0 : decode cX9_sendAll 0 = .ok (.aload_n 0, 1) := by decide +kernel
theorem dX9_sendAll_1 : decode cX9_sendAll 1 = .ok (.iconst 0, 1) := by decide +kernel
theorem dX9_sendAll_2 : decode cX9_sendAll 2 = .ok (.putfield 47, 3) := by decide +kernel
theorem dX9_sendAll_5 : decode cX9_sendAll 5 = .ok (.aload_n 0, 1) := by decide +kernel
theorem dX9_sendAll_6 : decode cX9_sendAll 6 = .ok (.getfield 179, 3) := by decide +kernel
theorem dX9_sendAll_9 : decode cX9_sendAll 9 = .ok (.ifCond .ne 6, 3) := by decide +kernel
theorem dX9_sendAll_12 : decode cX9_sendAll 12 = .ok (.ldc 210, 2) := by decide +kernel
theorem dX9_sendAll_14 : decode cX9_sendAll 14 = .ok (.ireturn, 1) := by decide +kernel
theorem dX9_sendAll_15 : decode cX9_sendAll 15 = .ok (.iload_n 1, 1) := by decide +kernel
theorem dX9_sendAll_16 : decode cX9_sendAll 16 = .ok (.invokestatic 61, 3) := by decide +kernel
theorem dX9_sendAll_19 : decode cX9_sendAll 19 = .ok (.ifCond .eq 15, 3) := by decide +kernel
theorem dX9_sendAll_22 : decode cX9_sendAll 22 = .ok (.iload_n 3, 1) := by decide +kernel
theorem dX9_sendAll_23 : decode cX9_sendAll 23 = .ok (.i2l, 1) := by decide +kernel
theorem dX9_sendAll_24 : decode cX9_sendAll 24 = .ok (.lconst 1, 1) := by decide +kernel
theorem dX9_sendAll_25 : decode cX9_sendAll 25 = .ok (.ldc2_w 224, 3) := by decide +kernel
theorem dX9_sendAll_28 : decode cX9_sendAll 28 = .ok (.invokestatic 57, 3) := by decide +kernel
theorem dX9_sendAll_31 : decode cX9_sendAll 31 = .ok (.ifCond .ne 6, 3) := by decide +kernel
theorem dX9_sendAll_34 : decode cX9_sendAll 34 = .ok (.ldc 67, 2) := by decide +kernel
theorem dX9_sendAll_36 : decode cX9_sendAll 36 = .ok (.ireturn, 1) := by decide +kernel
theorem dX9_sendAll_37 : decode cX9_sendAll 37 = .ok (.aload_n 0, 1) := by decide +kernel
theorem dX9_sendAll_38 : decode cX9_sendAll 38 = .ok (.getfield 7, 3) := by decide +kernel
theorem dX9_sendAll_41 : decode cX9_sendAll 41 = .ok (.iload_n 1, 1) := by decide +kernel
theorem dX9_sendAll_42 : decode cX9_sendAll 42 = .ok (.iaload, 1) := by decide +kernel
theorem dX9_sendAll_43 : decode cX9_sendAll 43 = .ok (.ifCond .ge 9, 3) := by decide +kernel
theorem dX9_sendAll_46 : decode cX9_sendAll 46 = .ok (.aload_n 0, 1) := by decide +kernel
theorem dX9_sendAll_47 : decode cX9_sendAll 47 = .ok (.iconst 1, 1) := by decide +kernel
theorem dX9_sendAll_48 : decode cX9_sendAll 48 = .ok (.invokevirtual 68, 3) := by decide +kernel
theorem dX9_sendAll_51 : decode cX9_sendAll 51 = .ok (.ireturn, 1) := by decide +kernel
theorem dX9_sendAll_52 : decode cX9_sendAll 52 = .ok (.iload_n 2, 1) := by decide +kernel
theorem dX9_sendAll_53 : decode cX9_sendAll 53 = .ok (.ifCond .lt 19, 3) := by decide +kernel
theorem dX9_sendAll_56 : decode cX9_sendAll 56 = .ok (.iload_n 2, 1) := by decide +kernel
theorem dX9_sendAll_57 : decode cX9_sendAll 57 = .ok (.i2l, 1) := by decide +kernel
theorem dX9_sendAll_58 : decode cX9_sendAll 58 = .ok (.iload_n 3, 1) := by decide +kernel
theorem dX9_sendAll_59 : decode cX9_sendAll 59 = .ok (.i2l, 1) := by decide +kernel
theorem dX9_sendAll_60 : decode cX9_sendAll 60 = .ok (.ladd, 1) := by decide +kernel
theorem dX9_sendAll_61 : decode cX9_sendAll 61 = .ok (.aload_n 0, 1) := by decide +kernel
theorem dX9_sendAll_62 : decode cX9_sendAll 62 = .ok (.getfield 13, 3) := by decide +kernel
theorem dX9_sendAll_65 : decode cX9_sendAll 65 = .ok (.iload_n 1, 1) := by decide +kernel
theorem dX9_sendAll_66 : decode cX9_sendAll 66 = .ok (.iaload, 1) := by decide +kernel
theorem dX9_sendAll_67 : decode cX9_sendAll 67 = .ok (.i2l, 1) := by decide +kernel
theorem dX9_sendAll_68 : decode cX9_sendAll 68 = .ok (.lcmp, 1) := by decide +kernel
theorem dX9_sendAll_69 : decode cX9_sendAll 69 = .ok (.ifCond .le 9, 3) := by decide +kernel
theorem dX9_sendAll_72 : decode cX9_sendAll 72 = .ok (.aload_n 0, 1) := by decide +kernel
theorem dX9_sendAll_73 : decode cX9_sendAll 73 = .ok (.iconst 2, 1) := by decide +kernel
theorem dX9_sendAll_74 : decode cX9_sendAll 74 = .ok (.invokevirtual 68, 3) := by decide +kernel
theorem dX9_sendAll_77 : decode cX9_sendAll 77 = .ok (.ireturn, 1) := by decide +kernel
theorem dX9_sendAll_78 : decode cX9_sendAll 78 = .ok (.iconst 0, 1) := by decide +kernel
theorem dX9_sendAll_79 : decode cX9_sendAll 79 = .ok (.istore 4, 2) := by decide +kernel
theorem dX9_sendAll_81 : decode cX9_sendAll 81 = .ok (.iload 4, 2) := by decide +kernel
theorem dX9_sendAll_83 : decode cX9_sendAll 83 = .ok (.iload_n 3, 1) := by decide +kernel
theorem dX9_sendAll_84 : decode cX9_sendAll 84 = .ok (.if_icmp .ge 33, 3) := by decide +kernel
theorem dX9_sendAll_87 : decode cX9_sendAll 87 = .ok (.aload_n 0, 1) := by decide +kernel
theorem dX9_sendAll_88 : decode cX9_sendAll 88 = .ok (.aload_n 0, 1) := by decide +kernel
theorem dX9_sendAll_89 : decode cX9_sendAll 89 = .ok (.getfield 16, 3) := by decide +kernel
theorem dX9_sendAll_92 : decode cX9_sendAll 92 = .ok (.bipush 40, 2) := by decide +kernel
theorem dX9_sendAll_94 : decode cX9_sendAll 94 = .ok (.iload_n 1, 1) := by decide +kernel
theorem dX9_sendAll_95 : decode cX9_sendAll 95 = .ok (.imul, 1) := by decide +kernel
theorem dX9_sendAll_96 : decode cX9_sendAll 96 = .ok (.iload_n 2, 1) := by decide +kernel
theorem dX9_sendAll_97 : decode cX9_sendAll 97 = .ok (.iadd, 1) := by decide +kernel
theorem dX9_sendAll_98 : decode cX9_sendAll 98 = .ok (.iload 4, 2) := by decide +kernel
theorem dX9_sendAll_100 : decode cX9_sendAll 100 = .ok (.iadd, 1) := by decide +kernel
theorem dX9_sendAll_101 : decode cX9_sendAll 101 = .ok (.iaload, 1) := by decide +kernel
theorem dX9_sendAll_102 : decode cX9_sendAll 102 = .ok (.invokevirtual 204, 3) := by decide +kernel
theorem dX9_sendAll_105 : decode cX9_sendAll 105 = .ok (.ifCond .ne 6, 3) := by decide +kernel
theorem dX9_sendAll_108 : decode cX9_sendAll 108 = .ok (.ldc 67, 2) := by decide +kernel
theorem dX9_sendAll_110 : decode cX9_sendAll 110 = .ok (.ireturn, 1) := by decide +kernel
theorem dX9_sendAll_111 : decode cX9_sendAll 111 = .ok (.iinc 4 1, 3) := by decide +kernel
theorem dX9_sendAll_114 : decode cX9_sendAll 114 = .ok (.goto (-33), 3) := by decide +kernel
theorem dX9_sendAll_117 : decode cX9_sendAll 117 = .ok (.aload_n 0, 1) := by decide +kernel
theorem dX9_sendAll_118 : decode cX9_sendAll 118 = .ok (.iconst 0, 1) := by decide +kernel
theorem dX9_sendAll_119 : decode cX9_sendAll 119 = .ok (.putfield 51, 3) := by decide +kernel
theorem dX9_sendAll_122 : decode cX9_sendAll 122 = .ok (.iconst 0, 1) := by decide +kernel
theorem dX9_sendAll_123 : decode cX9_sendAll 123 = .ok (.istore 4, 2) := by decide +kernel
theorem dX9_sendAll_125 : decode cX9_sendAll 125 = .ok (.iconst 0, 1) := by decide +kernel
theorem dX9_sendAll_126 : decode cX9_sendAll 126 = .ok (.istore 5, 2) := by decide +kernel
theorem dX9_sendAll_128 : decode cX9_sendAll 128 = .ok (.iload 5, 2) := by decide +kernel
theorem dX9_sendAll_130 : decode cX9_sendAll 130 = .ok (.iload_n 3, 1) := by decide +kernel
theorem dX9_sendAll_131 : decode cX9_sendAll 131 = .ok (.if_icmp .ge 51, 3) := by decide +kernel
theorem dX9_sendAll_134 : decode cX9_sendAll 134 = .ok (.aload_n 0, 1) := by decide +kernel
theorem dX9_sendAll_135 : decode cX9_sendAll 135 = .ok (.aload_n 0, 1) := by decide +kernel
theorem dX9_sendAll_136 : decode cX9_sendAll 136 = .ok (.getfield 16, 3) := by decide +kernel
theorem dX9_sendAll_139 : decode cX9_sendAll 139 = .ok (.bipush 40, 2) := by decide +kernel
theorem dX9_sendAll_141 : decode cX9_sendAll 141 = .ok (.iload_n 1, 1) := by decide +kernel
theorem dX9_sendAll_142 : decode cX9_sendAll 142 = .ok (.imul, 1) := by decide +kernel
theorem dX9_sendAll_143 : decode cX9_sendAll 143 = .ok (.iload_n 2, 1) := by decide +kernel
theorem dX9_sendAll_144 : decode cX9_sendAll 144 = .ok (.iadd, 1) := by decide +kernel
theorem dX9_sendAll_145 : decode cX9_sendAll 145 = .ok (.iload 5, 2) := by decide +kernel
theorem dX9_sendAll_147 : decode cX9_sendAll 147 = .ok (.iadd, 1) := by decide +kernel
theorem dX9_sendAll_148 : decode cX9_sendAll 148 = .ok (.iaload, 1) := by decide +kernel
theorem dX9_sendAll_149 : decode cX9_sendAll 149 = .ok (.invokevirtual 218, 3) := by decide +kernel
theorem dX9_sendAll_152 : decode cX9_sendAll 152 = .ok (.ifCond .eq 24, 3) := by decide +kernel
theorem dX9_sendAll_155 : decode cX9_sendAll 155 = .ok (.aload_n 0, 1) := by decide +kernel
theorem dX9_sendAll_156 : decode cX9_sendAll 156 = .ok (.aload_n 0, 1) := by decide +kernel
theorem dX9_sendAll_157 : decode cX9_sendAll 157 = .ok (.getfield 16, 3) := by decide +kernel
theorem dX9_sendAll_160 : decode cX9_sendAll 160 = .ok (.bipush 40, 2) := by decide +kernel
theorem dX9_sendAll_162 : decode cX9_sendAll 162 = .ok (.iload_n 1, 1) := by decide +kernel
theorem dX9_sendAll_163 : decode cX9_sendAll 163 = .ok (.imul, 1) := by decide +kernel
theorem dX9_sendAll_164 : decode cX9_sendAll 164 = .ok (.iload_n 2, 1) := by decide +kernel
theorem dX9_sendAll_165 : decode cX9_sendAll 165 = .ok (.iadd, 1) := by decide +kernel
theorem dX9_sendAll_166 : decode cX9_sendAll 166 = .ok (.iload 5, 2) := by decide +kernel
theorem dX9_sendAll_168 : decode cX9_sendAll 168 = .ok (.iadd, 1) := by decide +kernel
theorem dX9_sendAll_169 : decode cX9_sendAll 169 = .ok (.iaload, 1) := by decide +kernel
theorem dX9_sendAll_170 : decode cX9_sendAll 170 = .ok (.invokevirtual 221, 3) := by decide +kernel
theorem dX9_sendAll_173 : decode cX9_sendAll 173 = .ok (.iinc 4 1, 3) := by decide +kernel
theorem dX9_sendAll_176 : decode cX9_sendAll 176 = .ok (.iinc 5 1, 3) := by decide +kernel
theorem dX9_sendAll_179 : decode cX9_sendAll 179 = .ok (.goto (-51), 3) := by decide +kernel
theorem dX9_sendAll_182 : decode cX9_sendAll 182 = .ok (.iload 4, 2) := by decide +kernel
theorem dX9_sendAll_184 : decode cX9_sendAll 184 = .ok (.ireturn, 1) := by decide +kernel
set_option maxRecDepth 20000 in
theorem ggX9_arrives_X9_of : GoodIn wsX9_arrives wsX9_of := goodIn_r _ [5, 6, 19, 20, 21, 22, 23, 24, 25, 26, 27, 28, 29, 30, 31, 32, 33, 34, 35, 36, 37, 38, 39, 40, 41, 42, 43, 44] (by decide +kernel) (by decide +kernel)
set_option maxRecDepth 20000 in
theorem gX9_arrives_X9_of : GoodIn wsX9_arrives (wsV RX9 189 RX9 yX9_of wsX9_of) := goodIn_app (goodIn_of _ (by decide +kernel)) ggX9_arrives_X9_of
set_option maxRecDepth 20000 in
theorem ggX9_arrives_X9_becomes : GoodIn wsX9_arrives wsX9_becomes := goodIn_r _ [10, 6, 19, 20, 21, 22, 23, 24, 25, 26, 27, 28, 29, 30, 31, 32, 33, 34, 35, 36, 37, 38, 39, 40, 41, 42, 43, 44] (by decide +kernel) (by decide +kernel)
set_option maxRecDepth 20000 in
theorem gX9_arrives_X9_becomes : GoodIn wsX9_arrives (wsV RX9 214 RX9 yX9_becomes wsX9_becomes) := goodIn_app (goodIn_of _ (by decide +kernel)) ggX9_arrives_X9_becomes
set_option maxRecDepth 20000 in
theorem ggX9_arrives_X9_townOf : GoodIn wsX9_arrives wsX9_townOf := goodIn_r _ [14, 6, 1, 2, 3, 4, 5, 19, 20, 21, 22, 23, 24, 25, 26, 27, 28, 29, 30, 31, 32, 33, 34, 35, 36, 37, 38, 39, 40, 41, 42, 43, 44] (by decide +kernel) (by decide +kernel)
set_option maxRecDepth 20000 in
theorem gX9_arrives_X9_townOf : GoodIn wsX9_arrives (wsV RX9 195 RX9 yX9_townOf wsX9_townOf) := goodIn_app (goodIn_of _ (by decide +kernel)) ggX9_arrives_X9_townOf
set_option maxRecDepth 20000 in
theorem ggX9_arrives_X9_farOf : GoodIn wsX9_arrives wsX9_farOf := goodIn_r _ [18, 6, 19, 20, 21, 22, 23, 24, 25, 26, 27, 28, 29, 30, 31, 32, 33, 34, 35, 36, 37, 38, 39, 40, 41, 42, 43, 44] (by decide +kernel) (by decide +kernel)
set_option maxRecDepth 20000 in
theorem gX9_arrives_X9_farOf : GoodIn wsX9_arrives (wsV RX9 198 RX9 yX9_farOf wsX9_farOf) := goodIn_app (goodIn_of _ (by decide +kernel)) ggX9_arrives_X9_farOf
end
section
theorem dX9_arrives_0 : decode cX9_arrives 0 = .ok (.aload_n 0, 1) := by decide +kernel
theorem dX9_arrives_1 : decode cX9_arrives 1 = .ok (.iload_n 1, 1) := by decide +kernel
theorem dX9_arrives_2 : decode cX9_arrives 2 = .ok (.iconst 3, 1) := by decide +kernel
theorem dX9_arrives_3 : decode cX9_arrives 3 = .ok (.invokevirtual 189, 3) := by decide +kernel
theorem dX9_arrives_6 : decode cX9_arrives 6 = .ok (.iconst 2, 1) := by decide +kernel
theorem dX9_arrives_7 : decode cX9_arrives 7 = .ok (.if_icmp .ne 13, 3) := by decide +kernel
theorem dX9_arrives_10 : decode cX9_arrives 10 = .ok (.aload_n 0, 1) := by decide +kernel
theorem dX9_arrives_11 : decode cX9_arrives 11 = .ok (.iload_n 1, 1) := by decide +kernel
theorem dX9_arrives_12 : decode cX9_arrives 12 = .ok (.iconst 3, 1) := by decide +kernel
theorem dX9_arrives_13 : decode cX9_arrives 13 = .ok (.iconst 0, 1) := by decide +kernel
theorem dX9_arrives_14 : decode cX9_arrives 14 = .ok (.invokevirtual 214, 3) := by decide +kernel
theorem dX9_arrives_17 : decode cX9_arrives 17 = .ok (.goto 63, 3) := by decide +kernel
theorem dX9_arrives_20 : decode cX9_arrives 20 = .ok (.aload_n 0, 1) := by decide +kernel
theorem dX9_arrives_21 : decode cX9_arrives 21 = .ok (.iload_n 1, 1) := by decide +kernel
theorem dX9_arrives_22 : decode cX9_arrives 22 = .ok (.iconst 5, 1) := by decide +kernel
theorem dX9_arrives_23 : decode cX9_arrives 23 = .ok (.invokevirtual 189, 3) := by decide +kernel
theorem dX9_arrives_26 : decode cX9_arrives 26 = .ok (.iconst 1, 1) := by decide +kernel
theorem dX9_arrives_27 : decode cX9_arrives 27 = .ok (.if_icmp .eq 13, 3) := by decide +kernel
theorem dX9_arrives_30 : decode cX9_arrives 30 = .ok (.aload_n 0, 1) := by decide +kernel
theorem dX9_arrives_31 : decode cX9_arrives 31 = .ok (.iload_n 1, 1) := by decide +kernel
theorem dX9_arrives_32 : decode cX9_arrives 32 = .ok (.iconst 0, 1) := by decide +kernel
theorem dX9_arrives_33 : decode cX9_arrives 33 = .ok (.invokevirtual 189, 3) := by decide +kernel
theorem dX9_arrives_36 : decode cX9_arrives 36 = .ok (.iconst 5, 1) := by decide +kernel
theorem dX9_arrives_37 : decode cX9_arrives 37 = .ok (.if_icmp .ne 13, 3) := by decide +kernel
theorem dX9_arrives_40 : decode cX9_arrives 40 = .ok (.aload_n 0, 1) := by decide +kernel
theorem dX9_arrives_41 : decode cX9_arrives 41 = .ok (.iload_n 1, 1) := by decide +kernel
theorem dX9_arrives_42 : decode cX9_arrives 42 = .ok (.iconst 3, 1) := by decide +kernel
theorem dX9_arrives_43 : decode cX9_arrives 43 = .ok (.iconst 3, 1) := by decide +kernel
theorem dX9_arrives_44 : decode cX9_arrives 44 = .ok (.invokevirtual 214, 3) := by decide +kernel
theorem dX9_arrives_47 : decode cX9_arrives 47 = .ok (.goto 33, 3) := by decide +kernel
theorem dX9_arrives_50 : decode cX9_arrives 50 = .ok (.aload_n 0, 1) := by decide +kernel
theorem dX9_arrives_51 : decode cX9_arrives 51 = .ok (.iload_n 1, 1) := by decide +kernel
theorem dX9_arrives_52 : decode cX9_arrives 52 = .ok (.iconst 2, 1) := by decide +kernel
theorem dX9_arrives_53 : decode cX9_arrives 53 = .ok (.iconst 0, 1) := by decide +kernel
theorem dX9_arrives_54 : decode cX9_arrives 54 = .ok (.invokevirtual 214, 3) := by decide +kernel
theorem dX9_arrives_57 : decode cX9_arrives 57 = .ok (.aload_n 0, 1) := by decide +kernel
theorem dX9_arrives_58 : decode cX9_arrives 58 = .ok (.iload_n 1, 1) := by decide +kernel
theorem dX9_arrives_59 : decode cX9_arrives 59 = .ok (.iconst 3, 1) := by decide +kernel
theorem dX9_arrives_60 : decode cX9_arrives 60 = .ok (.iconst 2, 1) := by decide +kernel
theorem dX9_arrives_61 : decode cX9_arrives 61 = .ok (.invokevirtual 214, 3) := by decide +kernel
theorem dX9_arrives_64 : decode cX9_arrives 64 = .ok (.aload_n 0, 1) := by decide +kernel
theorem dX9_arrives_65 : decode cX9_arrives 65 = .ok (.iload_n 1, 1) := by decide +kernel
theorem dX9_arrives_66 : decode cX9_arrives 66 = .ok (.iconst 4, 1) := by decide +kernel
theorem dX9_arrives_67 : decode cX9_arrives 67 = .ok (.aload_n 0, 1) := by decide +kernel
theorem dX9_arrives_68 : decode cX9_arrives 68 = .ok (.aload_n 0, 1) := by decide +kernel
theorem dX9_arrives_69 : decode cX9_arrives 69 = .ok (.iload_n 1, 1) := by decide +kernel
theorem dX9_arrives_70 : decode cX9_arrives 70 = .ok (.invokevirtual 195, 3) := by decide +kernel
theorem dX9_arrives_73 : decode cX9_arrives 73 = .ok (.iconst 0, 1) := by decide +kernel
theorem dX9_arrives_74 : decode cX9_arrives 74 = .ok (.invokevirtual 198, 3) := by decide +kernel
theorem dX9_arrives_77 : decode cX9_arrives 77 = .ok (.invokevirtual 214, 3) := by decide +kernel
theorem dX9_arrives_80 : decode cX9_arrives 80 = .ok (.return_, 1) := by decide +kernel
set_option maxRecDepth 20000 in
theorem ggX9_goesOn_X9_of : GoodIn wsX9_goesOn wsX9_of := goodIn_r _ [5, 6, 23, 24, 25, 26, 27, 28, 29, 30, 31, 32, 33, 34, 35, 36, 37, 38, 39, 40, 41, 42, 43, 44, 45, 46, 47, 48] (by decide +kernel) (by decide +kernel)
set_option maxRecDepth 20000 in
theorem gX9_goesOn_X9_of : GoodIn wsX9_goesOn (wsV RX9 189 RX9 yX9_of wsX9_of) := goodIn_app (goodIn_of _ (by decide +kernel)) ggX9_goesOn_X9_of
set_option maxRecDepth 20000 in
theorem ggX9_goesOn_X9_becomes : GoodIn wsX9_goesOn wsX9_becomes := goodIn_r _ [10, 6, 23, 24, 25, 26, 27, 28, 29, 30, 31, 32, 33, 34, 35, 36, 37, 38, 39, 40, 41, 42, 43, 44, 45, 46, 47, 48] (by decide +kernel) (by decide +kernel)
set_option maxRecDepth 20000 in
theorem gX9_goesOn_X9_becomes : GoodIn wsX9_goesOn (wsV RX9 214 RX9 yX9_becomes wsX9_becomes) := goodIn_app (goodIn_of _ (by decide +kernel)) ggX9_goesOn_X9_becomes
set_option maxRecDepth 20000 in
theorem ggX9_goesOn_X9_arrives : GoodIn wsX9_goesOn wsX9_arrives := goodIn_r _ [14, 1, 2, 3, 4, 5, 6, 7, 8, 9, 10, 15, 16, 17, 18, 19, 20, 21, 22, 23, 24, 25, 26, 27, 28, 29, 30, 31, 32, 33, 34, 35, 36, 37, 38, 39, 40, 41, 42, 43, 44, 45, 46, 47, 48] (by decide +kernel) (by decide +kernel)
set_option maxRecDepth 20000 in
theorem gX9_goesOn_X9_arrives : GoodIn wsX9_goesOn (wsV RX9 226 RX9 yX9_arrives wsX9_arrives) := goodIn_app (goodIn_of _ (by decide +kernel)) ggX9_goesOn_X9_arrives
theorem dX9_goesOn_0 : decode cX9_goesOn 0 = .ok (.aload_n 0, 1) := by decide +kernel
theorem dX9_goesOn_1 : decode cX9_goesOn 1 = .ok (.iload_n 1, 1) := by decide +kernel
theorem dX9_goesOn_2 : decode cX9_goesOn 2 = .ok (.iconst 5, 1) := by decide +kernel
theorem dX9_goesOn_3 : decode cX9_goesOn 3 = .ok (.invokevirtual 189, 3) := by decide +kernel
theorem dX9_goesOn_6 : decode cX9_goesOn 6 = .ok (.ifCond .ne 27, 3) := by decide +kernel
theorem dX9_goesOn_9 : decode cX9_goesOn 9 = .ok (.aload_n 0, 1) := by decide +kernel
theorem dX9_goesOn_10 : decode cX9_goesOn 10 = .ok (.iload_n 1, 1) := by decide +kernel
theorem dX9_goesOn_11 : decode cX9_goesOn 11 = .ok (.iconst 3, 1) := by decide +kernel
theorem dX9_goesOn_12 : decode cX9_goesOn 12 = .ok (.invokevirtual 189, 3) := by decide +kernel
theorem dX9_goesOn_15 : decode cX9_goesOn 15 = .ok (.iconst 3, 1) := by decide +kernel
theorem dX9_goesOn_16 : decode cX9_goesOn 16 = .ok (.if_icmp .eq 17, 3) := by decide +kernel
theorem dX9_goesOn_19 : decode cX9_goesOn 19 = .ok (.aload_n 0, 1) := by decide +kernel
theorem dX9_goesOn_20 : decode cX9_goesOn 20 = .ok (.iload_n 1, 1) := by decide +kernel
theorem dX9_goesOn_21 : decode cX9_goesOn 21 = .ok (.iconst 2, 1) := by decide +kernel
theorem dX9_goesOn_22 : decode cX9_goesOn 22 = .ok (.aload_n 0, 1) := by decide +kernel
theorem dX9_goesOn_23 : decode cX9_goesOn 23 = .ok (.iload_n 1, 1) := by decide +kernel
theorem dX9_goesOn_24 : decode cX9_goesOn 24 = .ok (.iconst 2, 1) := by decide +kernel
theorem dX9_goesOn_25 : decode cX9_goesOn 25 = .ok (.invokevirtual 189, 3) := by decide +kernel
theorem dX9_goesOn_28 : decode cX9_goesOn 28 = .ok (.iconst 1, 1) := by decide +kernel
theorem dX9_goesOn_29 : decode cX9_goesOn 29 = .ok (.iadd, 1) := by decide +kernel
theorem dX9_goesOn_30 : decode cX9_goesOn 30 = .ok (.invokevirtual 214, 3) := by decide +kernel
theorem dX9_goesOn_33 : decode cX9_goesOn 33 = .ok (.aload_n 0, 1) := by decide +kernel
theorem dX9_goesOn_34 : decode cX9_goesOn 34 = .ok (.iload_n 1, 1) := by decide +kernel
theorem dX9_goesOn_35 : decode cX9_goesOn 35 = .ok (.iconst 3, 1) := by decide +kernel
theorem dX9_goesOn_36 : decode cX9_goesOn 36 = .ok (.invokevirtual 189, 3) := by decide +kernel
theorem dX9_goesOn_39 : decode cX9_goesOn 39 = .ok (.iconst 1, 1) := by decide +kernel
theorem dX9_goesOn_40 : decode cX9_goesOn 40 = .ok (.if_icmp .eq 13, 3) := by decide +kernel
theorem dX9_goesOn_43 : decode cX9_goesOn 43 = .ok (.aload_n 0, 1) := by decide +kernel
theorem dX9_goesOn_44 : decode cX9_goesOn 44 = .ok (.iload_n 1, 1) := by decide +kernel
theorem dX9_goesOn_45 : decode cX9_goesOn 45 = .ok (.iconst 3, 1) := by decide +kernel
theorem dX9_goesOn_46 : decode cX9_goesOn 46 = .ok (.invokevirtual 189, 3) := by decide +kernel
theorem dX9_goesOn_49 : decode cX9_goesOn 49 = .ok (.iconst 2, 1) := by decide +kernel
theorem dX9_goesOn_50 : decode cX9_goesOn 50 = .ok (.if_icmp .ne 31, 3) := by decide +kernel
theorem dX9_goesOn_53 : decode cX9_goesOn 53 = .ok (.aload_n 0, 1) := by decide +kernel
theorem dX9_goesOn_54 : decode cX9_goesOn 54 = .ok (.iload_n 1, 1) := by decide +kernel
theorem dX9_goesOn_55 : decode cX9_goesOn 55 = .ok (.iconst 4, 1) := by decide +kernel
theorem dX9_goesOn_56 : decode cX9_goesOn 56 = .ok (.aload_n 0, 1) := by decide +kernel
theorem dX9_goesOn_57 : decode cX9_goesOn 57 = .ok (.iload_n 1, 1) := by decide +kernel
theorem dX9_goesOn_58 : decode cX9_goesOn 58 = .ok (.iconst 4, 1) := by decide +kernel
theorem dX9_goesOn_59 : decode cX9_goesOn 59 = .ok (.invokevirtual 189, 3) := by decide +kernel
theorem dX9_goesOn_62 : decode cX9_goesOn 62 = .ok (.iconst 1, 1) := by decide +kernel
theorem dX9_goesOn_63 : decode cX9_goesOn 63 = .ok (.isub, 1) := by decide +kernel
theorem dX9_goesOn_64 : decode cX9_goesOn 64 = .ok (.invokevirtual 214, 3) := by decide +kernel
theorem dX9_goesOn_67 : decode cX9_goesOn 67 = .ok (.aload_n 0, 1) := by decide +kernel
theorem dX9_goesOn_68 : decode cX9_goesOn 68 = .ok (.iload_n 1, 1) := by decide +kernel
theorem dX9_goesOn_69 : decode cX9_goesOn 69 = .ok (.iconst 4, 1) := by decide +kernel
theorem dX9_goesOn_70 : decode cX9_goesOn 70 = .ok (.invokevirtual 189, 3) := by decide +kernel
theorem dX9_goesOn_73 : decode cX9_goesOn 73 = .ok (.ifCond .ne 8, 3) := by decide +kernel
theorem dX9_goesOn_76 : decode cX9_goesOn 76 = .ok (.aload_n 0, 1) := by decide +kernel
theorem dX9_goesOn_77 : decode cX9_goesOn 77 = .ok (.iload_n 1, 1) := by decide +kernel
theorem dX9_goesOn_78 : decode cX9_goesOn 78 = .ok (.invokevirtual 226, 3) := by decide +kernel
theorem dX9_goesOn_81 : decode cX9_goesOn 81 = .ok (.return_, 1) := by decide +kernel
set_option maxRecDepth 20000 in
theorem ggX9_days_X9_in : GoodIn wsX9_days wsX9_in := goodIn_r _ [11] (by decide +kernel) (by decide +kernel)
set_option maxRecDepth 20000 in
theorem gX9_days_X9_in : GoodIn wsX9_days (va_wsS RX9 57 yX9_in wsX9_in) := goodIn_app (goodIn_of _ (by decide +kernel)) ggX9_days_X9_in
set_option maxRecDepth 20000 in
theorem ggX9_days_X9_keep : GoodIn wsX9_days wsX9_keep := goodIn_r _ [15, 16, 17, 6, 46, 47, 48, 49, 50, 51, 52, 53, 54, 55, 56, 57, 58, 59, 60, 61, 62, 63, 64, 65, 66, 67, 68, 69, 70, 71] (by decide +kernel) (by decide +kernel)
set_option maxRecDepth 20000 in
theorem gX9_days_X9_keep : GoodIn wsX9_days (wsV RX9 211 RX9 yX9_keep wsX9_keep) := goodIn_app (goodIn_of _ (by decide +kernel)) ggX9_days_X9_keep
set_option maxRecDepth 20000 in
theorem ggX9_days_X9_goesOn : GoodIn wsX9_days wsX9_goesOn := goodIn_r _ [21, 22, 23, 24, 10, 25, 6, 26, 27, 28, 29, 30, 31, 32, 33, 34, 35, 36, 37, 38, 39, 40, 41, 46, 47, 48, 49, 50, 51, 52, 53, 54, 55, 56, 57, 58, 59, 60, 61, 62, 63, 64, 65, 66, 67, 68, 69, 70, 71] (by decide +kernel) (by decide +kernel)
set_option maxRecDepth 20000 in
theorem gX9_days_X9_goesOn : GoodIn wsX9_days (wsV RX9 231 RX9 yX9_goesOn wsX9_goesOn) := goodIn_app (goodIn_of _ (by decide +kernel)) ggX9_days_X9_goesOn
set_option maxRecDepth 20000 in
theorem ggX9_days_X9_of : GoodIn wsX9_days wsX9_of := goodIn_r _ [25, 6, 46, 47, 48, 49, 50, 51, 52, 53, 54, 55, 56, 57, 58, 59, 60, 61, 62, 63, 64, 65, 66, 67, 68, 69, 70, 71] (by decide +kernel) (by decide +kernel)
set_option maxRecDepth 20000 in
theorem gX9_days_X9_of : GoodIn wsX9_days (wsV RX9 189 RX9 yX9_of wsX9_of) := goodIn_app (goodIn_of _ (by decide +kernel)) ggX9_days_X9_of
set_option maxRecDepth 20000 in
theorem ggX9_days_X9_spanOf : GoodIn wsX9_days wsX9_spanOf := goodIn_r _ [45, 6, 22, 23, 24, 10, 25, 46, 47, 48, 49, 50, 51, 52, 53, 54, 55, 56, 57, 58, 59, 60, 61, 62, 63, 64, 65, 66, 67, 68, 69, 70, 71] (by decide +kernel) (by decide +kernel)
set_option maxRecDepth 20000 in
theorem gX9_days_X9_spanOf : GoodIn wsX9_days (wsV RX9 192 RX9 yX9_spanOf wsX9_spanOf) := goodIn_app (goodIn_of _ (by decide +kernel)) ggX9_days_X9_spanOf
set_option maxRecDepth 20000 in
theorem ggX9_days_X9_becomes : GoodIn wsX9_days wsX9_becomes := goodIn_r _ [29, 6, 46, 47, 48, 49, 50, 51, 52, 53, 54, 55, 56, 57, 58, 59, 60, 61, 62, 63, 64, 65, 66, 67, 68, 69, 70, 71] (by decide +kernel) (by decide +kernel)
set_option maxRecDepth 20000 in
theorem gX9_days_X9_becomes : GoodIn wsX9_days (wsV RX9 214 RX9 yX9_becomes wsX9_becomes) := goodIn_app (goodIn_of _ (by decide +kernel)) ggX9_days_X9_becomes
theorem dX9_days_0 : decode cX9_days 0 = .ok (.aload_n 0, 1) := by decide +kernel
theorem dX9_days_1 : decode cX9_days 1 = .ok (.iconst 0, 1) := by decide +kernel
theorem dX9_days_2 : decode cX9_days 2 = .ok (.putfield 47, 3) := by decide +kernel
theorem dX9_days_5 : decode cX9_days 5 = .ok (.aload_n 0, 1) := by decide +kernel
theorem dX9_days_6 : decode cX9_days 6 = .ok (.getfield 179, 3) := by decide +kernel
theorem dX9_days_9 : decode cX9_days 9 = .ok (.ifCond .ne 6, 3) := by decide +kernel
theorem dX9_days_12 : decode cX9_days 12 = .ok (.ldc 210, 2) := by decide +kernel
theorem dX9_days_14 : decode cX9_days 14 = .ok (.ireturn, 1) := by decide +kernel
theorem dX9_days_15 : decode cX9_days 15 = .ok (.iload_n 1, 1) := by decide +kernel
theorem dX9_days_16 : decode cX9_days 16 = .ok (.i2l, 1) := by decide +kernel
theorem dX9_days_17 : decode cX9_days 17 = .ok (.lconst 1, 1) := by decide +kernel
theorem dX9_days_18 : decode cX9_days 18 = .ok (.ldc2_w 229, 3) := by decide +kernel
theorem dX9_days_21 : decode cX9_days 21 = .ok (.invokestatic 57, 3) := by decide +kernel
theorem dX9_days_24 : decode cX9_days 24 = .ok (.ifCond .ne 6, 3) := by decide +kernel
theorem dX9_days_27 : decode cX9_days 27 = .ok (.ldc 67, 2) := by decide +kernel
theorem dX9_days_29 : decode cX9_days 29 = .ok (.ireturn, 1) := by decide +kernel
theorem dX9_days_30 : decode cX9_days 30 = .ok (.aload_n 0, 1) := by decide +kernel
theorem dX9_days_31 : decode cX9_days 31 = .ok (.getfield 19, 3) := by decide +kernel
theorem dX9_days_34 : decode cX9_days 34 = .ok (.iconst 4, 1) := by decide +kernel
theorem dX9_days_35 : decode cX9_days 35 = .ok (.iaload, 1) := by decide +kernel
theorem dX9_days_36 : decode cX9_days 36 = .ok (.iload_n 1, 1) := by decide +kernel
theorem dX9_days_37 : decode cX9_days 37 = .ok (.iadd, 1) := by decide +kernel
theorem dX9_days_38 : decode cX9_days 38 = .ok (.sipush 9999, 3) := by decide +kernel
theorem dX9_days_41 : decode cX9_days 41 = .ok (.if_icmp .le 6, 3) := by decide +kernel
theorem dX9_days_44 : decode cX9_days 44 = .ok (.ldc 77, 2) := by decide +kernel
theorem dX9_days_46 : decode cX9_days 46 = .ok (.ireturn, 1) := by decide +kernel
theorem dX9_days_47 : decode cX9_days 47 = .ok (.aload_n 0, 1) := by decide +kernel
theorem dX9_days_48 : decode cX9_days 48 = .ok (.invokevirtual 211, 3) := by decide +kernel
theorem dX9_days_51 : decode cX9_days 51 = .ok (.iconst 0, 1) := by decide +kernel
theorem dX9_days_52 : decode cX9_days 52 = .ok (.istore_n 2, 1) := by decide +kernel
theorem dX9_days_53 : decode cX9_days 53 = .ok (.iconst 0, 1) := by decide +kernel
theorem dX9_days_54 : decode cX9_days 54 = .ok (.istore_n 3, 1) := by decide +kernel
theorem dX9_days_55 : decode cX9_days 55 = .ok (.iload_n 3, 1) := by decide +kernel
theorem dX9_days_56 : decode cX9_days 56 = .ok (.iload_n 1, 1) := by decide +kernel
theorem dX9_days_57 : decode cX9_days 57 = .ok (.if_icmp .ge 117, 3) := by decide +kernel
theorem dX9_days_60 : decode cX9_days 60 = .ok (.aload_n 0, 1) := by decide +kernel
theorem dX9_days_61 : decode cX9_days 61 = .ok (.getfield 19, 3) := by decide +kernel
theorem dX9_days_64 : decode cX9_days 64 = .ok (.iconst 4, 1) := by decide +kernel
theorem dX9_days_65 : decode cX9_days 65 = .ok (.dup2, 1) := by decide +kernel
theorem dX9_days_66 : decode cX9_days 66 = .ok (.iaload, 1) := by decide +kernel
theorem dX9_days_67 : decode cX9_days 67 = .ok (.iconst 1, 1) := by decide +kernel
theorem dX9_days_68 : decode cX9_days 68 = .ok (.iadd, 1) := by decide +kernel
theorem dX9_days_69 : decode cX9_days 69 = .ok (.iastore, 1) := by decide +kernel
theorem dX9_days_70 : decode cX9_days 70 = .ok (.iconst 0, 1) := by decide +kernel
theorem dX9_days_71 : decode cX9_days 71 = .ok (.istore 4, 2) := by decide +kernel
theorem dX9_days_73 : decode cX9_days 73 = .ok (.iload 4, 2) := by decide +kernel
theorem dX9_days_75 : decode cX9_days 75 = .ok (.aload_n 0, 1) := by decide +kernel
theorem dX9_days_76 : decode cX9_days 76 = .ok (.getfield 19, 3) := by decide +kernel
theorem dX9_days_79 : decode cX9_days 79 = .ok (.iconst 3, 1) := by decide +kernel
theorem dX9_days_80 : decode cX9_days 80 = .ok (.iaload, 1) := by decide +kernel
theorem dX9_days_81 : decode cX9_days 81 = .ok (.if_icmp .ge 15, 3) := by decide +kernel
theorem dX9_days_84 : decode cX9_days 84 = .ok (.aload_n 0, 1) := by decide +kernel
theorem dX9_days_85 : decode cX9_days 85 = .ok (.iload 4, 2) := by decide +kernel
theorem dX9_days_87 : decode cX9_days 87 = .ok (.invokevirtual 231, 3) := by decide +kernel
theorem dX9_days_90 : decode cX9_days 90 = .ok (.iinc 4 1, 3) := by decide +kernel
theorem dX9_days_93 : decode cX9_days 93 = .ok (.goto (-20), 3) := by decide +kernel
theorem dX9_days_96 : decode cX9_days 96 = .ok (.iconst 0, 1) := by decide +kernel
theorem dX9_days_97 : decode cX9_days 97 = .ok (.istore 4, 2) := by decide +kernel
theorem dX9_days_99 : decode cX9_days 99 = .ok (.iload 4, 2) := by decide +kernel
theorem dX9_days_101 : decode cX9_days 101 = .ok (.aload_n 0, 1) := by decide +kernel
theorem dX9_days_102 : decode cX9_days 102 = .ok (.getfield 19, 3) := by decide +kernel
theorem dX9_days_105 : decode cX9_days 105 = .ok (.iconst 3, 1) := by decide +kernel
theorem dX9_days_106 : decode cX9_days 106 = .ok (.iaload, 1) := by decide +kernel
theorem dX9_days_107 : decode cX9_days 107 = .ok (.if_icmp .ge 61, 3) := by decide +kernel
theorem dX9_days_110 : decode cX9_days 110 = .ok (.aload_n 0, 1) := by decide +kernel
theorem dX9_days_111 : decode cX9_days 111 = .ok (.iload 4, 2) := by decide +kernel
theorem dX9_days_113 : decode cX9_days 113 = .ok (.iconst 5, 1) := by decide +kernel
theorem dX9_days_114 : decode cX9_days 114 = .ok (.invokevirtual 189, 3) := by decide +kernel
theorem dX9_days_117 : decode cX9_days 117 = .ok (.ifCond .ne 45, 3) := by decide +kernel
theorem dX9_days_120 : decode cX9_days 120 = .ok (.aload_n 0, 1) := by decide +kernel
theorem dX9_days_121 : decode cX9_days 121 = .ok (.iload 4, 2) := by decide +kernel
theorem dX9_days_123 : decode cX9_days 123 = .ok (.iconst 0, 1) := by decide +kernel
theorem dX9_days_124 : decode cX9_days 124 = .ok (.invokevirtual 189, 3) := by decide +kernel
theorem dX9_days_127 : decode cX9_days 127 = .ok (.iconst 5, 1) := by decide +kernel
theorem dX9_days_128 : decode cX9_days 128 = .ok (.if_icmp .eq 34, 3) := by decide +kernel
theorem dX9_days_131 : decode cX9_days 131 = .ok (.aload_n 0, 1) := by decide +kernel
theorem dX9_days_132 : decode cX9_days 132 = .ok (.iload 4, 2) := by decide +kernel
theorem dX9_days_134 : decode cX9_days 134 = .ok (.iconst 2, 1) := by decide +kernel
theorem dX9_days_135 : decode cX9_days 135 = .ok (.invokevirtual 189, 3) := by decide +kernel
theorem dX9_days_138 : decode cX9_days 138 = .ok (.aload_n 0, 1) := by decide +kernel
theorem dX9_days_139 : decode cX9_days 139 = .ok (.iload 4, 2) := by decide +kernel
theorem dX9_days_141 : decode cX9_days 141 = .ok (.invokevirtual 192, 3) := by decide +kernel
theorem dX9_days_144 : decode cX9_days 144 = .ok (.if_icmp .le 18, 3) := by decide +kernel
theorem dX9_days_147 : decode cX9_days 147 = .ok (.aload_n 0, 1) := by decide +kernel
theorem dX9_days_148 : decode cX9_days 148 = .ok (.iload 4, 2) := by decide +kernel
theorem dX9_days_150 : decode cX9_days 150 = .ok (.iconst 5, 1) := by decide +kernel
theorem dX9_days_151 : decode cX9_days 151 = .ok (.iconst 1, 1) := by decide +kernel
theorem dX9_days_152 : decode cX9_days 152 = .ok (.invokevirtual 214, 3) := by decide +kernel
theorem dX9_days_155 : decode cX9_days 155 = .ok (.iload_n 2, 1) := by decide +kernel
theorem dX9_days_156 : decode cX9_days 156 = .ok (.iconst 1, 1) := by decide +kernel
theorem dX9_days_157 : decode cX9_days 157 = .ok (.iload 4, 2) := by decide +kernel
theorem dX9_days_159 : decode cX9_days 159 = .ok (.ishl, 1) := by decide +kernel
theorem dX9_days_160 : decode cX9_days 160 = .ok (.ior, 1) := by decide +kernel
theorem dX9_days_161 : decode cX9_days 161 = .ok (.istore_n 2, 1) := by decide +kernel
theorem dX9_days_162 : decode cX9_days 162 = .ok (.iinc 4 1, 3) := by decide +kernel
theorem dX9_days_165 : decode cX9_days 165 = .ok (.goto (-66), 3) := by decide +kernel
theorem dX9_days_168 : decode cX9_days 168 = .ok (.iinc 3 1, 3) := by decide +kernel
theorem dX9_days_171 : decode cX9_days 171 = .ok (.goto (-116), 3) := by decide +kernel
theorem dX9_days_174 : decode cX9_days 174 = .ok (.iload_n 2, 1) := by decide +kernel
theorem dX9_days_175 : decode cX9_days 175 = .ok (.ireturn, 1) := by decide +kernel
set_option maxRecDepth 20000 in
theorem ggX9_flood_X9_in : GoodIn wsX9_flood wsX9_in := goodIn_r _ [13] (by decide +kernel) (by decide +kernel)
set_option maxRecDepth 20000 in
theorem gX9_flood_X9_in : GoodIn wsX9_flood (va_wsS RX9 57 yX9_in wsX9_in) := goodIn_app (goodIn_of _ (by decide +kernel)) ggX9_flood_X9_in
set_option maxRecDepth 20000 in
theorem ggX9_flood_X9_keep : GoodIn wsX9_flood wsX9_keep := goodIn_r _ [17, 18, 19, 6, 28, 29, 30, 31, 32, 33, 34, 35, 36, 37, 38, 39, 40, 41, 42, 43, 44, 45, 46, 47, 48, 49, 50, 51, 52, 53] (by decide +kernel) (by decide +kernel)
set_option maxRecDepth 20000 in
theorem gX9_flood_X9_keep : GoodIn wsX9_flood (wsV RX9 211 RX9 yX9_keep wsX9_keep) := goodIn_app (goodIn_of _ (by decide +kernel)) ggX9_flood_X9_keep
set_option maxRecDepth 20000 in
theorem ggX9_flood_X9_of : GoodIn wsX9_flood wsX9_of := goodIn_r _ [23, 6, 28, 29, 30, 31, 32, 33, 34, 35, 36, 37, 38, 39, 40, 41, 42, 43, 44, 45, 46, 47, 48, 49, 50, 51, 52, 53] (by decide +kernel) (by decide +kernel)
set_option maxRecDepth 20000 in
theorem gX9_flood_X9_of : GoodIn wsX9_flood (wsV RX9 189 RX9 yX9_of wsX9_of) := goodIn_app (goodIn_of _ (by decide +kernel)) ggX9_flood_X9_of
set_option maxRecDepth 20000 in
theorem ggX9_flood_X9_becomes : GoodIn wsX9_flood wsX9_becomes := goodIn_r _ [27, 6, 28, 29, 30, 31, 32, 33, 34, 35, 36, 37, 38, 39, 40, 41, 42, 43, 44, 45, 46, 47, 48, 49, 50, 51, 52, 53] (by decide +kernel) (by decide +kernel)
set_option maxRecDepth 20000 in
theorem gX9_flood_X9_becomes : GoodIn wsX9_flood (wsV RX9 214 RX9 yX9_becomes wsX9_becomes) := goodIn_app (goodIn_of _ (by decide +kernel)) ggX9_flood_X9_becomes
theorem dX9_flood_0 : decode cX9_flood 0 = .ok (.aload_n 0, 1) := by decide +kernel
theorem dX9_flood_1 : decode cX9_flood 1 = .ok (.iconst 0, 1) := by decide +kernel
theorem dX9_flood_2 : decode cX9_flood 2 = .ok (.putfield 47, 3) := by decide +kernel
theorem dX9_flood_5 : decode cX9_flood 5 = .ok (.aload_n 0, 1) := by decide +kernel
theorem dX9_flood_6 : decode cX9_flood 6 = .ok (.getfield 179, 3) := by decide +kernel
theorem dX9_flood_9 : decode cX9_flood 9 = .ok (.ifCond .ne 6, 3) := by decide +kernel
theorem dX9_flood_12 : decode cX9_flood 12 = .ok (.ldc 210, 2) := by decide +kernel
theorem dX9_flood_14 : decode cX9_flood 14 = .ok (.ireturn, 1) := by decide +kernel
theorem dX9_flood_15 : decode cX9_flood 15 = .ok (.iload_n 1, 1) := by decide +kernel
theorem dX9_flood_16 : decode cX9_flood 16 = .ok (.i2l, 1) := by decide +kernel
theorem dX9_flood_17 : decode cX9_flood 17 = .ok (.lconst 1, 1) := by decide +kernel
theorem dX9_flood_18 : decode cX9_flood 18 = .ok (.ldc2_w 234, 3) := by decide +kernel
theorem dX9_flood_21 : decode cX9_flood 21 = .ok (.invokestatic 57, 3) := by decide +kernel
theorem dX9_flood_24 : decode cX9_flood 24 = .ok (.ifCond .ne 6, 3) := by decide +kernel
theorem dX9_flood_27 : decode cX9_flood 27 = .ok (.ldc 67, 2) := by decide +kernel
theorem dX9_flood_29 : decode cX9_flood 29 = .ok (.ireturn, 1) := by decide +kernel
theorem dX9_flood_30 : decode cX9_flood 30 = .ok (.aload_n 0, 1) := by decide +kernel
theorem dX9_flood_31 : decode cX9_flood 31 = .ok (.invokevirtual 211, 3) := by decide +kernel
theorem dX9_flood_34 : decode cX9_flood 34 = .ok (.iload_n 1, 1) := by decide +kernel
theorem dX9_flood_35 : decode cX9_flood 35 = .ok (.i2l, 1) := by decide +kernel
theorem dX9_flood_36 : decode cX9_flood 36 = .ok (.lstore_n 2, 1) := by decide +kernel
theorem dX9_flood_37 : decode cX9_flood 37 = .ok (.iconst 0, 1) := by decide +kernel
theorem dX9_flood_38 : decode cX9_flood 38 = .ok (.istore 4, 2) := by decide +kernel
theorem dX9_flood_40 : decode cX9_flood 40 = .ok (.iconst 0, 1) := by decide +kernel
theorem dX9_flood_41 : decode cX9_flood 41 = .ok (.istore 5, 2) := by decide +kernel
theorem dX9_flood_43 : decode cX9_flood 43 = .ok (.iload 5, 2) := by decide +kernel
theorem dX9_flood_45 : decode cX9_flood 45 = .ok (.aload_n 0, 1) := by decide +kernel
theorem dX9_flood_46 : decode cX9_flood 46 = .ok (.getfield 19, 3) := by decide +kernel
theorem dX9_flood_49 : decode cX9_flood 49 = .ok (.iconst 3, 1) := by decide +kernel
theorem dX9_flood_50 : decode cX9_flood 50 = .ok (.iaload, 1) := by decide +kernel
theorem dX9_flood_51 : decode cX9_flood 51 = .ok (.if_icmp .ge 81, 3) := by decide +kernel
theorem dX9_flood_54 : decode cX9_flood 54 = .ok (.aload_n 0, 1) := by decide +kernel
theorem dX9_flood_55 : decode cX9_flood 55 = .ok (.iload 5, 2) := by decide +kernel
theorem dX9_flood_57 : decode cX9_flood 57 = .ok (.iconst 3, 1) := by decide +kernel
theorem dX9_flood_58 : decode cX9_flood 58 = .ok (.invokevirtual 189, 3) := by decide +kernel
theorem dX9_flood_61 : decode cX9_flood 61 = .ok (.iconst 1, 1) := by decide +kernel
theorem dX9_flood_62 : decode cX9_flood 62 = .ok (.if_icmp .eq 14, 3) := by decide +kernel
theorem dX9_flood_65 : decode cX9_flood 65 = .ok (.aload_n 0, 1) := by decide +kernel
theorem dX9_flood_66 : decode cX9_flood 66 = .ok (.iload 5, 2) := by decide +kernel
theorem dX9_flood_68 : decode cX9_flood 68 = .ok (.iconst 3, 1) := by decide +kernel
theorem dX9_flood_69 : decode cX9_flood 69 = .ok (.invokevirtual 189, 3) := by decide +kernel
theorem dX9_flood_72 : decode cX9_flood 72 = .ok (.iconst 2, 1) := by decide +kernel
theorem dX9_flood_73 : decode cX9_flood 73 = .ok (.if_icmp .ne 53, 3) := by decide +kernel
theorem dX9_flood_76 : decode cX9_flood 76 = .ok (.lload_n 2, 1) := by decide +kernel
theorem dX9_flood_77 : decode cX9_flood 77 = .ok (.ldc2_w 236, 3) := by decide +kernel
theorem dX9_flood_80 : decode cX9_flood 80 = .ok (.lmul, 1) := by decide +kernel
theorem dX9_flood_81 : decode cX9_flood 81 = .ok (.ldc2_w 238, 3) := by decide +kernel
theorem dX9_flood_84 : decode cX9_flood 84 = .ok (.lrem, 1) := by decide +kernel
theorem dX9_flood_85 : decode cX9_flood 85 = .ok (.lstore_n 2, 1) := by decide +kernel
theorem dX9_flood_86 : decode cX9_flood 86 = .ok (.lload_n 2, 1) := by decide +kernel
theorem dX9_flood_87 : decode cX9_flood 87 = .ok (.ldc2_w 240, 3) := by decide +kernel
theorem dX9_flood_90 : decode cX9_flood 90 = .ok (.lrem, 1) := by decide +kernel
theorem dX9_flood_91 : decode cX9_flood 91 = .ok (.l2i, 1) := by decide +kernel
theorem dX9_flood_92 : decode cX9_flood 92 = .ok (.istore 6, 2) := by decide +kernel
theorem dX9_flood_94 : decode cX9_flood 94 = .ok (.aload_n 0, 1) := by decide +kernel
theorem dX9_flood_95 : decode cX9_flood 95 = .ok (.iload 5, 2) := by decide +kernel
theorem dX9_flood_97 : decode cX9_flood 97 = .ok (.iconst 4, 1) := by decide +kernel
theorem dX9_flood_98 : decode cX9_flood 98 = .ok (.aload_n 0, 1) := by decide +kernel
theorem dX9_flood_99 : decode cX9_flood 99 = .ok (.iload 5, 2) := by decide +kernel
theorem dX9_flood_101 : decode cX9_flood 101 = .ok (.iconst 4, 1) := by decide +kernel
theorem dX9_flood_102 : decode cX9_flood 102 = .ok (.invokevirtual 189, 3) := by decide +kernel
theorem dX9_flood_105 : decode cX9_flood 105 = .ok (.iload 6, 2) := by decide +kernel
theorem dX9_flood_107 : decode cX9_flood 107 = .ok (.iadd, 1) := by decide +kernel
theorem dX9_flood_108 : decode cX9_flood 108 = .ok (.invokevirtual 214, 3) := by decide +kernel
theorem dX9_flood_111 : decode cX9_flood 111 = .ok (.iload 4, 2) := by decide +kernel
theorem dX9_flood_113 : decode cX9_flood 113 = .ok (.iload 6, 2) := by decide +kernel
theorem dX9_flood_115 : decode cX9_flood 115 = .ok (.ifCond .le 7, 3) := by decide +kernel
theorem dX9_flood_118 : decode cX9_flood 118 = .ok (.iconst 1, 1) := by decide +kernel
theorem dX9_flood_119 : decode cX9_flood 119 = .ok (.goto 4, 3) := by decide +kernel
theorem dX9_flood_122 : decode cX9_flood 122 = .ok (.iconst 0, 1) := by decide +kernel
theorem dX9_flood_123 : decode cX9_flood 123 = .ok (.iadd, 1) := by decide +kernel
theorem dX9_flood_124 : decode cX9_flood 124 = .ok (.istore 4, 2) := by decide +kernel
theorem dX9_flood_126 : decode cX9_flood 126 = .ok (.iinc 5 1, 3) := by decide +kernel
theorem dX9_flood_129 : decode cX9_flood 129 = .ok (.goto (-86), 3) := by decide +kernel
theorem dX9_flood_132 : decode cX9_flood 132 = .ok (.iload 4, 2) := by decide +kernel
theorem dX9_flood_134 : decode cX9_flood 134 = .ok (.ireturn, 1) := by decide +kernel
theorem dX9_undo_0 : decode cX9_undo 0 = .ok (.aload_n 0, 1) := by decide +kernel
theorem dX9_undo_1 : decode cX9_undo 1 = .ok (.iconst 0, 1) := by decide +kernel
theorem dX9_undo_2 : decode cX9_undo 2 = .ok (.putfield 47, 3) := by decide +kernel
theorem dX9_undo_5 : decode cX9_undo 5 = .ok (.aload_n 0, 1) := by decide +kernel
theorem dX9_undo_6 : decode cX9_undo 6 = .ok (.getfield 183, 3) := by decide +kernel
theorem dX9_undo_9 : decode cX9_undo 9 = .ok (.ifCond .ne 6, 3) := by decide +kernel
theorem dX9_undo_12 : decode cX9_undo 12 = .ok (.ldc 210, 2) := by decide +kernel
theorem dX9_undo_14 : decode cX9_undo 14 = .ok (.ireturn, 1) := by decide +kernel
theorem dX9_undo_15 : decode cX9_undo 15 = .ok (.aload_n 0, 1) := by decide +kernel
theorem dX9_undo_16 : decode cX9_undo 16 = .ok (.dup, 1) := by decide +kernel
theorem dX9_undo_17 : decode cX9_undo 17 = .ok (.getfield 183, 3) := by decide +kernel
theorem dX9_undo_20 : decode cX9_undo 20 = .ok (.iconst 1, 1) := by decide +kernel
theorem dX9_undo_21 : decode cX9_undo 21 = .ok (.isub, 1) := by decide +kernel
theorem dX9_undo_22 : decode cX9_undo 22 = .ok (.putfield 183, 3) := by decide +kernel
theorem dX9_undo_25 : decode cX9_undo 25 = .ok (.iconst 0, 1) := by decide +kernel
theorem dX9_undo_26 : decode cX9_undo 26 = .ok (.istore_n 1, 1) := by decide +kernel
theorem dX9_undo_27 : decode cX9_undo 27 = .ok (.iload_n 1, 1) := by decide +kernel
theorem dX9_undo_28 : decode cX9_undo 28 = .ok (.sipush 147, 3) := by decide +kernel
theorem dX9_undo_31 : decode cX9_undo 31 = .ok (.if_icmp .ge 30, 3) := by decide +kernel
theorem dX9_undo_34 : decode cX9_undo 34 = .ok (.aload_n 0, 1) := by decide +kernel
theorem dX9_undo_35 : decode cX9_undo 35 = .ok (.getfield 19, 3) := by decide +kernel
theorem dX9_undo_38 : decode cX9_undo 38 = .ok (.iload_n 1, 1) := by decide +kernel
theorem dX9_undo_39 : decode cX9_undo 39 = .ok (.aload_n 0, 1) := by decide +kernel
theorem dX9_undo_40 : decode cX9_undo 40 = .ok (.getfield 25, 3) := by decide +kernel
theorem dX9_undo_43 : decode cX9_undo 43 = .ok (.sipush 147, 3) := by decide +kernel
theorem dX9_undo_46 : decode cX9_undo 46 = .ok (.aload_n 0, 1) := by decide +kernel
theorem dX9_undo_47 : decode cX9_undo 47 = .ok (.getfield 183, 3) := by decide +kernel
theorem dX9_undo_50 : decode cX9_undo 50 = .ok (.imul, 1) := by decide +kernel
theorem dX9_undo_51 : decode cX9_undo 51 = .ok (.iload_n 1, 1) := by decide +kernel
theorem dX9_undo_52 : decode cX9_undo 52 = .ok (.iadd, 1) := by decide +kernel
theorem dX9_undo_53 : decode cX9_undo 53 = .ok (.iaload, 1) := by decide +kernel
theorem dX9_undo_54 : decode cX9_undo 54 = .ok (.iastore, 1) := by decide +kernel
theorem dX9_undo_55 : decode cX9_undo 55 = .ok (.iinc 1 1, 3) := by decide +kernel
theorem dX9_undo_58 : decode cX9_undo 58 = .ok (.goto (-31), 3) := by decide +kernel
theorem dX9_undo_61 : decode cX9_undo 61 = .ok (.aload_n 0, 1) := by decide +kernel
theorem dX9_undo_62 : decode cX9_undo 62 = .ok (.getfield 183, 3) := by decide +kernel
theorem dX9_undo_65 : decode cX9_undo 65 = .ok (.ireturn, 1) := by decide +kernel
set_option maxRecDepth 20000 in
theorem ggX9_worthOf_X9_slackOf : GoodIn wsX9_worthOf wsX9_slackOf := goodIn_r _ [5, 6, 7, 8, 4, 9, 10, 11, 12, 13, 14, 15, 16, 17, 18, 19, 20, 21, 22, 23, 24, 25, 26, 27, 28, 29, 30, 31, 32, 33, 34, 35, 36, 37, 38, 39, 40, 41, 42, 43, 44, 45, 46, 47, 48, 49, 50, 51, 52, 53] (by decide +kernel) (by decide +kernel)
set_option maxRecDepth 20000 in
theorem gX9_worthOf_X9_slackOf : GoodIn wsX9_worthOf (wsV RX9 242 RX9 yX9_slackOf wsX9_slackOf) := goodIn_app (goodIn_of _ (by decide +kernel)) ggX9_worthOf_X9_slackOf
set_option maxRecDepth 20000 in
theorem ggX9_worthOf_X9_spanOf : GoodIn wsX9_worthOf wsX9_spanOf := goodIn_r _ [27, 10, 11, 12, 13, 4, 14, 28, 29, 30, 31, 32, 33, 34, 35, 36, 37, 38, 39, 40, 41, 42, 43, 44, 45, 46, 47, 48, 49, 50, 51, 52, 53] (by decide +kernel) (by decide +kernel)
set_option maxRecDepth 20000 in
theorem gX9_worthOf_X9_spanOf : GoodIn wsX9_worthOf (wsV RX9 192 RX9 yX9_spanOf wsX9_spanOf) := goodIn_app (goodIn_of _ (by decide +kernel)) ggX9_worthOf_X9_spanOf
theorem dX9_worthOf_0 : decode cX9_worthOf 0 = .ok (.aload_n 0, 1) := by decide +kernel
theorem dX9_worthOf_1 : decode cX9_worthOf 1 = .ok (.iload_n 1, 1) := by decide +kernel
theorem dX9_worthOf_2 : decode cX9_worthOf 2 = .ok (.invokevirtual 242, 3) := by decide +kernel
theorem dX9_worthOf_5 : decode cX9_worthOf 5 = .ok (.istore_n 2, 1) := by decide +kernel
theorem dX9_worthOf_6 : decode cX9_worthOf 6 = .ok (.iload_n 2, 1) := by decide +kernel
theorem dX9_worthOf_7 : decode cX9_worthOf 7 = .ok (.ifCond .le 11, 3) := by decide +kernel
theorem dX9_worthOf_10 : decode cX9_worthOf 10 = .ok (.aload_n 0, 1) := by decide +kernel
theorem dX9_worthOf_11 : decode cX9_worthOf 11 = .ok (.iload_n 1, 1) := by decide +kernel
theorem dX9_worthOf_12 : decode cX9_worthOf 12 = .ok (.invokevirtual 192, 3) := by decide +kernel
theorem dX9_worthOf_15 : decode cX9_worthOf 15 = .ok (.ifCond .ne 7, 3) := by decide +kernel
theorem dX9_worthOf_18 : decode cX9_worthOf 18 = .ok (.iconst 0, 1) := by decide +kernel
theorem dX9_worthOf_19 : decode cX9_worthOf 19 = .ok (.goto 13, 3) := by decide +kernel
theorem dX9_worthOf_22 : decode cX9_worthOf 22 = .ok (.bipush 100, 2) := by decide +kernel
theorem dX9_worthOf_24 : decode cX9_worthOf 24 = .ok (.iload_n 2, 1) := by decide +kernel
theorem dX9_worthOf_25 : decode cX9_worthOf 25 = .ok (.imul, 1) := by decide +kernel
theorem dX9_worthOf_26 : decode cX9_worthOf 26 = .ok (.aload_n 0, 1) := by decide +kernel
theorem dX9_worthOf_27 : decode cX9_worthOf 27 = .ok (.iload_n 1, 1) := by decide +kernel
theorem dX9_worthOf_28 : decode cX9_worthOf 28 = .ok (.invokevirtual 192, 3) := by decide +kernel
theorem dX9_worthOf_31 : decode cX9_worthOf 31 = .ok (.idiv, 1) := by decide +kernel
theorem dX9_worthOf_32 : decode cX9_worthOf 32 = .ok (.ireturn, 1) := by decide +kernel
set_option maxRecDepth 20000 in
theorem ggX9_coin_X9_isCoin : GoodIn wsX9_coin wsX9_isCoin := goodIn_r _ [8, 9, 10, 11, 7, 12, 42, 43, 44, 45, 46, 47, 48, 49, 50, 51, 52, 53, 54, 55, 56, 57, 58, 59, 60, 61, 62, 63, 64, 65, 66, 67] (by decide +kernel) (by decide +kernel)
set_option maxRecDepth 20000 in
theorem gX9_coin_X9_isCoin : GoodIn wsX9_coin (wsV RX9 204 RX9 yX9_isCoin wsX9_isCoin) := goodIn_app (goodIn_of _ (by decide +kernel)) ggX9_coin_X9_isCoin
set_option maxRecDepth 20000 in
theorem ggX9_coin_X9_in : GoodIn wsX9_coin wsX9_in := goodIn_r _ [12] (by decide +kernel) (by decide +kernel)
set_option maxRecDepth 20000 in
theorem gX9_coin_X9_in : GoodIn wsX9_coin (va_wsS RX9 57 yX9_in wsX9_in) := goodIn_app (goodIn_of _ (by decide +kernel)) ggX9_coin_X9_in
set_option maxRecDepth 20000 in
theorem ggX9_coin_X9_spanOf : GoodIn wsX9_coin wsX9_spanOf := goodIn_r _ [16, 9, 17, 18, 19, 7, 20, 42, 43, 44, 45, 46, 47, 48, 49, 50, 51, 52, 53, 54, 55, 56, 57, 58, 59, 60, 61, 62, 63, 64, 65, 66, 67] (by decide +kernel) (by decide +kernel)
set_option maxRecDepth 20000 in
theorem gX9_coin_X9_spanOf : GoodIn wsX9_coin (wsV RX9 192 RX9 yX9_spanOf wsX9_spanOf) := goodIn_app (goodIn_of _ (by decide +kernel)) ggX9_coin_X9_spanOf
set_option maxRecDepth 20000 in
theorem ggX9_coin_X9_slackOf : GoodIn wsX9_coin wsX9_slackOf := goodIn_r _ [24, 25, 26, 27, 7, 28, 9, 17, 18, 19, 20, 29, 30, 31, 32, 33, 34, 35, 36, 37, 13, 14, 15, 16, 42, 43, 44, 45, 46, 47, 48, 49, 50, 51, 52, 53, 54, 55, 56, 57, 58, 59, 60, 61, 62, 63, 64, 65, 66, 67] (by decide +kernel) (by decide +kernel)
set_option maxRecDepth 20000 in
theorem gX9_coin_X9_slackOf : GoodIn wsX9_coin (wsV RX9 242 RX9 yX9_slackOf wsX9_slackOf) := goodIn_app (goodIn_of _ (by decide +kernel)) ggX9_coin_X9_slackOf
set_option maxRecDepth 20000 in
theorem ggX9_coin_X9_worthOf : GoodIn wsX9_coin wsX9_worthOf := goodIn_r _ [41, 21, 22, 23, 7, 24, 25, 26, 27, 28, 9, 17, 18, 19, 20, 29, 30, 31, 32, 33, 34, 35, 36, 37, 13, 14, 15, 16, 42, 43, 44, 45, 46, 47, 48, 49, 50, 51, 52, 53, 54, 55, 56, 57, 58, 59, 60, 61, 62, 63, 64, 65, 66, 67] (by decide +kernel) (by decide +kernel)
set_option maxRecDepth 20000 in
theorem gX9_coin_X9_worthOf : GoodIn wsX9_coin (wsV RX9 245 RX9 yX9_worthOf wsX9_worthOf) := goodIn_app (goodIn_of _ (by decide +kernel)) ggX9_coin_X9_worthOf
set_option maxRecDepth 20000 in
theorem ggX9_coin_X9_of : GoodIn wsX9_coin wsX9_of := goodIn_r _ [20, 9, 42, 43, 44, 45, 46, 47, 48, 49, 50, 51, 52, 53, 54, 55, 56, 57, 58, 59, 60, 61, 62, 63, 64, 65, 66, 67] (by decide +kernel) (by decide +kernel)
set_option maxRecDepth 20000 in
theorem gX9_coin_X9_of : GoodIn wsX9_coin (wsV RX9 189 RX9 yX9_of wsX9_of) := goodIn_app (goodIn_of _ (by decide +kernel)) ggX9_coin_X9_of
theorem dX9_coin_0 : decode cX9_coin 0 = .ok (.aload_n 0, 1) := by decide +kernel
theorem dX9_coin_1 : decode cX9_coin 1 = .ok (.iconst 0, 1) := by decide +kernel
theorem dX9_coin_2 : decode cX9_coin 2 = .ok (.putfield 47, 3) := by decide +kernel
theorem dX9_coin_5 : decode cX9_coin 5 = .ok (.aload_n 0, 1) := by decide +kernel
theorem dX9_coin_6 : decode cX9_coin 6 = .ok (.iload_n 1, 1) := by decide +kernel
theorem dX9_coin_7 : decode cX9_coin 7 = .ok (.invokevirtual 204, 3) := by decide +kernel
theorem dX9_coin_10 : decode cX9_coin 10 = .ok (.ifCond .eq 15, 3) := by decide +kernel
theorem dX9_coin_13 : decode cX9_coin 13 = .ok (.iload_n 2, 1) := by decide +kernel
theorem dX9_coin_14 : decode cX9_coin 14 = .ok (.i2l, 1) := by decide +kernel
theorem dX9_coin_15 : decode cX9_coin 15 = .ok (.lconst 0, 1) := by decide +kernel
theorem dX9_coin_16 : decode cX9_coin 16 = .ok (.ldc2_w 55, 3) := by decide +kernel
theorem dX9_coin_19 : decode cX9_coin 19 = .ok (.invokestatic 57, 3) := by decide +kernel
theorem dX9_coin_22 : decode cX9_coin 22 = .ok (.ifCond .ne 6, 3) := by decide +kernel
theorem dX9_coin_25 : decode cX9_coin 25 = .ok (.ldc 67, 2) := by decide +kernel
theorem dX9_coin_27 : decode cX9_coin 27 = .ok (.ireturn, 1) := by decide +kernel
theorem dX9_coin_28 : decode cX9_coin 28 = .ok (.iload_n 2, 1) := by decide +kernel
theorem dX9_coin_29 : decode cX9_coin 29 = .ok (.tableswitch 45 5 7 #[27, 33, 39], 27) := by decide +kernel
theorem dX9_coin_56 : decode cX9_coin 56 = .ok (.aload_n 0, 1) := by decide +kernel
theorem dX9_coin_57 : decode cX9_coin 57 = .ok (.iload_n 1, 1) := by decide +kernel
theorem dX9_coin_58 : decode cX9_coin 58 = .ok (.invokevirtual 192, 3) := by decide +kernel
theorem dX9_coin_61 : decode cX9_coin 61 = .ok (.ireturn, 1) := by decide +kernel
theorem dX9_coin_62 : decode cX9_coin 62 = .ok (.aload_n 0, 1) := by decide +kernel
theorem dX9_coin_63 : decode cX9_coin 63 = .ok (.iload_n 1, 1) := by decide +kernel
theorem dX9_coin_64 : decode cX9_coin 64 = .ok (.invokevirtual 242, 3) := by decide +kernel
theorem dX9_coin_67 : decode cX9_coin 67 = .ok (.ireturn, 1) := by decide +kernel
theorem dX9_coin_68 : decode cX9_coin 68 = .ok (.aload_n 0, 1) := by decide +kernel
theorem dX9_coin_69 : decode cX9_coin 69 = .ok (.iload_n 1, 1) := by decide +kernel
theorem dX9_coin_70 : decode cX9_coin 70 = .ok (.invokevirtual 245, 3) := by decide +kernel
theorem dX9_coin_73 : decode cX9_coin 73 = .ok (.ireturn, 1) := by decide +kernel
theorem dX9_coin_74 : decode cX9_coin 74 = .ok (.aload_n 0, 1) := by decide +kernel
theorem dX9_coin_75 : decode cX9_coin 75 = .ok (.iload_n 1, 1) := by decide +kernel
theorem dX9_coin_76 : decode cX9_coin 76 = .ok (.iload_n 2, 1) := by decide +kernel
theorem dX9_coin_77 : decode cX9_coin 77 = .ok (.iconst 4, 1) := by decide +kernel
theorem dX9_coin_78 : decode cX9_coin 78 = .ok (.if_icmp .ne 7, 3) := by decide +kernel
theorem dX9_coin_81 : decode cX9_coin 81 = .ok (.iconst 5, 1) := by decide +kernel
theorem dX9_coin_82 : decode cX9_coin 82 = .ok (.goto 31, 3) := by decide +kernel
theorem dX9_coin_85 : decode cX9_coin 85 = .ok (.iload_n 2, 1) := by decide +kernel
theorem dX9_coin_86 : decode cX9_coin 86 = .ok (.iconst 3, 1) := by decide +kernel
theorem dX9_coin_87 : decode cX9_coin 87 = .ok (.if_icmp .ne 7, 3) := by decide +kernel
theorem dX9_coin_90 : decode cX9_coin 90 = .ok (.iconst 4, 1) := by decide +kernel
theorem dX9_coin_91 : decode cX9_coin 91 = .ok (.goto 22, 3) := by decide +kernel
theorem dX9_coin_94 : decode cX9_coin 94 = .ok (.iload_n 2, 1) := by decide +kernel
theorem dX9_coin_95 : decode cX9_coin 95 = .ok (.iconst 2, 1) := by decide +kernel
theorem dX9_coin_96 : decode cX9_coin 96 = .ok (.if_icmp .ne 7, 3) := by decide +kernel
theorem dX9_coin_99 : decode cX9_coin 99 = .ok (.iconst 3, 1) := by decide +kernel
theorem dX9_coin_100 : decode cX9_coin 100 = .ok (.goto 13, 3) := by decide +kernel
theorem dX9_coin_103 : decode cX9_coin 103 = .ok (.iload_n 2, 1) := by decide +kernel
theorem dX9_coin_104 : decode cX9_coin 104 = .ok (.iconst 1, 1) := by decide +kernel
theorem dX9_coin_105 : decode cX9_coin 105 = .ok (.if_icmp .ne 7, 3) := by decide +kernel
theorem dX9_coin_108 : decode cX9_coin 108 = .ok (.iconst 2, 1) := by decide +kernel
theorem dX9_coin_109 : decode cX9_coin 109 = .ok (.goto 4, 3) := by decide +kernel
theorem dX9_coin_112 : decode cX9_coin 112 = .ok (.iconst 1, 1) := by decide +kernel
theorem dX9_coin_113 : decode cX9_coin 113 = .ok (.invokevirtual 189, 3) := by decide +kernel
theorem dX9_coin_116 : decode cX9_coin 116 = .ok (.ireturn, 1) := by decide +kernel
set_option maxRecDepth 20000 in
theorem ggX9_far_X9_in : GoodIn wsX9_far wsX9_in := goodIn_r _ [10] (by decide +kernel) (by decide +kernel)
set_option maxRecDepth 20000 in
theorem gX9_far_X9_in : GoodIn wsX9_far (va_wsS RX9 57 yX9_in wsX9_in) := goodIn_app (goodIn_of _ (by decide +kernel)) ggX9_far_X9_in
set_option maxRecDepth 20000 in
theorem ggX9_far_X9_farOf : GoodIn wsX9_far wsX9_farOf := goodIn_r _ [14, 15, 16, 17, 18, 19, 20, 21, 22, 23, 24, 25, 26, 27, 28, 29, 30, 31, 32, 33, 34, 35, 36, 37, 38, 39, 40, 41] (by decide +kernel) (by decide +kernel)
set_option maxRecDepth 20000 in
theorem gX9_far_X9_farOf : GoodIn wsX9_far (wsV RX9 198 RX9 yX9_farOf wsX9_farOf) := goodIn_app (goodIn_of _ (by decide +kernel)) ggX9_far_X9_farOf
theorem dX9_far_0 : decode cX9_far 0 = .ok (.aload_n 0, 1) := by decide +kernel
theorem dX9_far_1 : decode cX9_far 1 = .ok (.iconst 0, 1) := by decide +kernel
theorem dX9_far_2 : decode cX9_far 2 = .ok (.putfield 47, 3) := by decide +kernel
theorem dX9_far_5 : decode cX9_far 5 = .ok (.aload_n 0, 1) := by decide +kernel
theorem dX9_far_6 : decode cX9_far 6 = .ok (.getfield 179, 3) := by decide +kernel
theorem dX9_far_9 : decode cX9_far 9 = .ok (.ifCond .ne 6, 3) := by decide +kernel
theorem dX9_far_12 : decode cX9_far 12 = .ok (.ldc 210, 2) := by decide +kernel
theorem dX9_far_14 : decode cX9_far 14 = .ok (.ireturn, 1) := by decide +kernel
theorem dX9_far_15 : decode cX9_far 15 = .ok (.iload_n 1, 1) := by decide +kernel
theorem dX9_far_16 : decode cX9_far 16 = .ok (.i2l, 1) := by decide +kernel
theorem dX9_far_17 : decode cX9_far 17 = .ok (.lconst 0, 1) := by decide +kernel
theorem dX9_far_18 : decode cX9_far 18 = .ok (.ldc2_w 55, 3) := by decide +kernel
theorem dX9_far_21 : decode cX9_far 21 = .ok (.invokestatic 57, 3) := by decide +kernel
theorem dX9_far_24 : decode cX9_far 24 = .ok (.ifCond .eq 15, 3) := by decide +kernel
theorem dX9_far_27 : decode cX9_far 27 = .ok (.iload_n 2, 1) := by decide +kernel
theorem dX9_far_28 : decode cX9_far 28 = .ok (.i2l, 1) := by decide +kernel
theorem dX9_far_29 : decode cX9_far 29 = .ok (.lconst 0, 1) := by decide +kernel
theorem dX9_far_30 : decode cX9_far 30 = .ok (.ldc2_w 55, 3) := by decide +kernel
theorem dX9_far_33 : decode cX9_far 33 = .ok (.invokestatic 57, 3) := by decide +kernel
theorem dX9_far_36 : decode cX9_far 36 = .ok (.ifCond .ne 6, 3) := by decide +kernel
theorem dX9_far_39 : decode cX9_far 39 = .ok (.ldc 67, 2) := by decide +kernel
theorem dX9_far_41 : decode cX9_far 41 = .ok (.ireturn, 1) := by decide +kernel
theorem dX9_far_42 : decode cX9_far 42 = .ok (.aload_n 0, 1) := by decide +kernel
theorem dX9_far_43 : decode cX9_far 43 = .ok (.iload_n 1, 1) := by decide +kernel
theorem dX9_far_44 : decode cX9_far 44 = .ok (.iload_n 2, 1) := by decide +kernel
theorem dX9_far_45 : decode cX9_far 45 = .ok (.invokevirtual 198, 3) := by decide +kernel
theorem dX9_far_48 : decode cX9_far 48 = .ok (.sipush 10000, 3) := by decide +kernel
theorem dX9_far_51 : decode cX9_far 51 = .ok (.if_icmp .ge 12, 3) := by decide +kernel
theorem dX9_far_54 : decode cX9_far 54 = .ok (.aload_n 0, 1) := by decide +kernel
theorem dX9_far_55 : decode cX9_far 55 = .ok (.iload_n 1, 1) := by decide +kernel
theorem dX9_far_56 : decode cX9_far 56 = .ok (.iload_n 2, 1) := by decide +kernel
theorem dX9_far_57 : decode cX9_far 57 = .ok (.invokevirtual 198, 3) := by decide +kernel
theorem dX9_far_60 : decode cX9_far 60 = .ok (.goto 5, 3) := by decide +kernel
theorem dX9_far_63 : decode cX9_far 63 = .ok (.ldc 83, 2) := by decide +kernel
theorem dX9_far_65 : decode cX9_far 65 = .ok (.ireturn, 1) := by decide +kernel
set_option maxRecDepth 20000 in
theorem ggX9_late_X9_slackOf : GoodIn wsX9_late wsX9_slackOf := goodIn_r _ [10, 11, 12, 13, 9, 14, 4, 15, 16, 17, 18, 19, 20, 21, 22, 23, 24, 25, 26, 5, 27, 28, 29, 30, 31, 32, 33, 34, 35, 36, 37, 38, 39, 40, 41, 42, 43, 44, 45, 46, 47, 48, 49, 50, 51, 52, 53, 54, 55, 56] (by decide +kernel) (by decide +kernel)
set_option maxRecDepth 20000 in
theorem gX9_late_X9_slackOf : GoodIn wsX9_late (wsV RX9 242 RX9 yX9_slackOf wsX9_slackOf) := goodIn_app (goodIn_of _ (by decide +kernel)) ggX9_late_X9_slackOf
theorem dX9_late_0 : decode cX9_late 0 = .ok (.aload_n 0, 1) := by decide +kernel
theorem dX9_late_1 : decode cX9_late 1 = .ok (.iconst 0, 1) := by decide +kernel
theorem dX9_late_2 : decode cX9_late 2 = .ok (.putfield 47, 3) := by decide +kernel
theorem dX9_late_5 : decode cX9_late 5 = .ok (.aload_n 0, 1) := by decide +kernel
theorem dX9_late_6 : decode cX9_late 6 = .ok (.getfield 179, 3) := by decide +kernel
theorem dX9_late_9 : decode cX9_late 9 = .ok (.ifCond .ne 6, 3) := by decide +kernel
theorem dX9_late_12 : decode cX9_late 12 = .ok (.ldc 210, 2) := by decide +kernel
theorem dX9_late_14 : decode cX9_late 14 = .ok (.ireturn, 1) := by decide +kernel
theorem dX9_late_15 : decode cX9_late 15 = .ok (.iconst 0, 1) := by decide +kernel
theorem dX9_late_16 : decode cX9_late 16 = .ok (.istore_n 1, 1) := by decide +kernel
theorem dX9_late_17 : decode cX9_late 17 = .ok (.iconst 0, 1) := by decide +kernel
theorem dX9_late_18 : decode cX9_late 18 = .ok (.istore_n 2, 1) := by decide +kernel
theorem dX9_late_19 : decode cX9_late 19 = .ok (.iload_n 2, 1) := by decide +kernel
theorem dX9_late_20 : decode cX9_late 20 = .ok (.aload_n 0, 1) := by decide +kernel
theorem dX9_late_21 : decode cX9_late 21 = .ok (.getfield 19, 3) := by decide +kernel
theorem dX9_late_24 : decode cX9_late 24 = .ok (.iconst 3, 1) := by decide +kernel
theorem dX9_late_25 : decode cX9_late 25 = .ok (.iaload, 1) := by decide +kernel
theorem dX9_late_26 : decode cX9_late 26 = .ok (.if_icmp .ge 35, 3) := by decide +kernel
theorem dX9_late_29 : decode cX9_late 29 = .ok (.aload_n 0, 1) := by decide +kernel
theorem dX9_late_30 : decode cX9_late 30 = .ok (.iload_n 2, 1) := by decide +kernel
theorem dX9_late_31 : decode cX9_late 31 = .ok (.invokevirtual 242, 3) := by decide +kernel
theorem dX9_late_34 : decode cX9_late 34 = .ok (.istore_n 3, 1) := by decide +kernel
theorem dX9_late_35 : decode cX9_late 35 = .ok (.iload_n 1, 1) := by decide +kernel
theorem dX9_late_36 : decode cX9_late 36 = .ok (.iload_n 3, 1) := by decide +kernel
theorem dX9_late_37 : decode cX9_late 37 = .ok (.ldc 83, 2) := by decide +kernel
theorem dX9_late_39 : decode cX9_late 39 = .ok (.if_icmp .eq 13, 3) := by decide +kernel
theorem dX9_late_42 : decode cX9_late 42 = .ok (.iload_n 3, 1) := by decide +kernel
theorem dX9_late_43 : decode cX9_late 43 = .ok (.ifCond .ge 9, 3) := by decide +kernel
theorem dX9_late_46 : decode cX9_late 46 = .ok (.iconst 1, 1) := by decide +kernel
theorem dX9_late_47 : decode cX9_late 47 = .ok (.iload_n 2, 1) := by decide +kernel
theorem dX9_late_48 : decode cX9_late 48 = .ok (.ishl, 1) := by decide +kernel
theorem dX9_late_49 : decode cX9_late 49 = .ok (.goto 4, 3) := by decide +kernel
theorem dX9_late_52 : decode cX9_late 52 = .ok (.iconst 0, 1) := by decide +kernel
theorem dX9_late_53 : decode cX9_late 53 = .ok (.ior, 1) := by decide +kernel
theorem dX9_late_54 : decode cX9_late 54 = .ok (.istore_n 1, 1) := by decide +kernel
theorem dX9_late_55 : decode cX9_late 55 = .ok (.iinc 2 1, 3) := by decide +kernel
theorem dX9_late_58 : decode cX9_late 58 = .ok (.goto (-39), 3) := by decide +kernel
theorem dX9_late_61 : decode cX9_late 61 = .ok (.iload_n 1, 1) := by decide +kernel
theorem dX9_late_62 : decode cX9_late 62 = .ok (.ireturn, 1) := by decide +kernel
set_option maxRecDepth 20000 in
theorem ggX9_canBeSaved_X9_slackOf : GoodIn wsX9_canBeSaved wsX9_slackOf := goodIn_r _ [5, 6, 7, 8, 4, 9, 10, 11, 12, 13, 14, 15, 16, 17, 18, 19, 20, 21, 22, 23, 24, 25, 26, 27, 28, 29, 30, 31, 32, 33, 34, 35, 36, 37, 38, 39, 40, 41, 42, 43, 44, 45, 46, 47, 48, 49, 50, 51, 52, 53] (by decide +kernel) (by decide +kernel)
set_option maxRecDepth 20000 in
theorem gX9_canBeSaved_X9_slackOf : GoodIn wsX9_canBeSaved (wsV RX9 242 RX9 yX9_slackOf wsX9_slackOf) := goodIn_app (goodIn_of _ (by decide +kernel)) ggX9_canBeSaved_X9_slackOf
set_option maxRecDepth 20000 in
theorem ggX9_canBeSaved_X9_of : GoodIn wsX9_canBeSaved wsX9_of := goodIn_r _ [14, 10, 28, 29, 30, 31, 32, 33, 34, 35, 36, 37, 38, 39, 40, 41, 42, 43, 44, 45, 46, 47, 48, 49, 50, 51, 52, 53] (by decide +kernel) (by decide +kernel)
set_option maxRecDepth 20000 in
theorem gX9_canBeSaved_X9_of : GoodIn wsX9_canBeSaved (wsV RX9 189 RX9 yX9_of wsX9_of) := goodIn_app (goodIn_of _ (by decide +kernel)) ggX9_canBeSaved_X9_of
theorem dX9_canBeSaved_0 : decode cX9_canBeSaved 0 = .ok (.aload_n 0, 1) := by decide +kernel
theorem dX9_canBeSaved_1 : decode cX9_canBeSaved 1 = .ok (.iload_n 1, 1) := by decide +kernel
theorem dX9_canBeSaved_2 : decode cX9_canBeSaved 2 = .ok (.invokevirtual 242, 3) := by decide +kernel
theorem dX9_canBeSaved_5 : decode cX9_canBeSaved 5 = .ok (.istore_n 2, 1) := by decide +kernel
theorem dX9_canBeSaved_6 : decode cX9_canBeSaved 6 = .ok (.aload_n 0, 1) := by decide +kernel
theorem dX9_canBeSaved_7 : decode cX9_canBeSaved 7 = .ok (.iload_n 1, 1) := by decide +kernel
theorem dX9_canBeSaved_8 : decode cX9_canBeSaved 8 = .ok (.iconst 3, 1) := by decide +kernel
theorem dX9_canBeSaved_9 : decode cX9_canBeSaved 9 = .ok (.invokevirtual 189, 3) := by decide +kernel
theorem dX9_canBeSaved_12 : decode cX9_canBeSaved 12 = .ok (.ifCond .ne 11, 3) := by decide +kernel
theorem dX9_canBeSaved_15 : decode cX9_canBeSaved 15 = .ok (.iload_n 2, 1) := by decide +kernel
theorem dX9_canBeSaved_16 : decode cX9_canBeSaved 16 = .ok (.ifCond .lt 7, 3) := by decide +kernel
theorem dX9_canBeSaved_19 : decode cX9_canBeSaved 19 = .ok (.iconst 1, 1) := by decide +kernel
theorem dX9_canBeSaved_20 : decode cX9_canBeSaved 20 = .ok (.goto 4, 3) := by decide +kernel
theorem dX9_canBeSaved_23 : decode cX9_canBeSaved 23 = .ok (.iconst 0, 1) := by decide +kernel
theorem dX9_canBeSaved_24 : decode cX9_canBeSaved 24 = .ok (.ireturn, 1) := by decide +kernel
set_option maxRecDepth 20000 in
theorem ggX9_mustGo_X9_in : GoodIn wsX9_mustGo wsX9_in := goodIn_r _ [10] (by decide +kernel) (by decide +kernel)
set_option maxRecDepth 20000 in
theorem gX9_mustGo_X9_in : GoodIn wsX9_mustGo (va_wsS RX9 57 yX9_in wsX9_in) := goodIn_app (goodIn_of _ (by decide +kernel)) ggX9_mustGo_X9_in
set_option maxRecDepth 20000 in
theorem ggX9_mustGo_X9_canBeSaved : GoodIn wsX9_mustGo wsX9_canBeSaved := goodIn_r _ [14, 15, 16, 17, 9, 18, 19, 20, 21, 22, 6, 23, 24, 25, 26, 27, 28, 29, 30, 31, 32, 33, 34, 35, 36, 37, 38, 39, 40, 41, 42, 43, 44, 45, 46, 47, 48, 49, 50, 51, 52, 53, 54, 55, 56, 57, 58, 59, 60, 61, 62, 63, 64, 65] (by decide +kernel) (by decide +kernel)
set_option maxRecDepth 20000 in
theorem gX9_mustGo_X9_canBeSaved : GoodIn wsX9_mustGo (wsV RX9 250 RX9 yX9_canBeSaved wsX9_canBeSaved) := goodIn_app (goodIn_of _ (by decide +kernel)) ggX9_mustGo_X9_canBeSaved
set_option maxRecDepth 20000 in
theorem ggX9_mustGo_X9_slackOf : GoodIn wsX9_mustGo wsX9_slackOf := goodIn_r _ [18, 19, 20, 21, 9, 22, 6, 23, 24, 25, 26, 27, 28, 29, 30, 31, 32, 33, 34, 35, 36, 37, 38, 39, 40, 41, 42, 43, 44, 45, 46, 47, 48, 49, 50, 51, 52, 53, 54, 55, 56, 57, 58, 59, 60, 61, 62, 63, 64, 65] (by decide +kernel) (by decide +kernel)
set_option maxRecDepth 20000 in
theorem gX9_mustGo_X9_slackOf : GoodIn wsX9_mustGo (wsV RX9 242 RX9 yX9_slackOf wsX9_slackOf) := goodIn_app (goodIn_of _ (by decide +kernel)) ggX9_mustGo_X9_slackOf
theorem dX9_mustGo_0 : decode cX9_mustGo 0 = .ok (.aload_n 0, 1) := by decide +kernel
theorem dX9_mustGo_1 : decode cX9_mustGo 1 = .ok (.iconst 0, 1) := by decide +kernel
theorem dX9_mustGo_2 : decode cX9_mustGo 2 = .ok (.putfield 47, 3) := by decide +kernel
theorem dX9_mustGo_5 : decode cX9_mustGo 5 = .ok (.aload_n 0, 1) := by decide +kernel
theorem dX9_mustGo_6 : decode cX9_mustGo 6 = .ok (.getfield 179, 3) := by decide +kernel
theorem dX9_mustGo_9 : decode cX9_mustGo 9 = .ok (.ifCond .ne 6, 3) := by decide +kernel
theorem dX9_mustGo_12 : decode cX9_mustGo 12 = .ok (.ldc 210, 2) := by decide +kernel
theorem dX9_mustGo_14 : decode cX9_mustGo 14 = .ok (.ireturn, 1) := by decide +kernel
theorem dX9_mustGo_15 : decode cX9_mustGo 15 = .ok (.iload_n 1, 1) := by decide +kernel
theorem dX9_mustGo_16 : decode cX9_mustGo 16 = .ok (.i2l, 1) := by decide +kernel
theorem dX9_mustGo_17 : decode cX9_mustGo 17 = .ok (.lconst 1, 1) := by decide +kernel
theorem dX9_mustGo_18 : decode cX9_mustGo 18 = .ok (.ldc2_w 248, 3) := by decide +kernel
theorem dX9_mustGo_21 : decode cX9_mustGo 21 = .ok (.invokestatic 57, 3) := by decide +kernel
theorem dX9_mustGo_24 : decode cX9_mustGo 24 = .ok (.ifCond .ne 6, 3) := by decide +kernel
theorem dX9_mustGo_27 : decode cX9_mustGo 27 = .ok (.ldc 67, 2) := by decide +kernel
theorem dX9_mustGo_29 : decode cX9_mustGo 29 = .ok (.ireturn, 1) := by decide +kernel
theorem dX9_mustGo_30 : decode cX9_mustGo 30 = .ok (.iconst 0, 1) := by decide +kernel
theorem dX9_mustGo_31 : decode cX9_mustGo 31 = .ok (.istore_n 2, 1) := by decide +kernel
theorem dX9_mustGo_32 : decode cX9_mustGo 32 = .ok (.iconst 0, 1) := by decide +kernel
theorem dX9_mustGo_33 : decode cX9_mustGo 33 = .ok (.istore_n 3, 1) := by decide +kernel
theorem dX9_mustGo_34 : decode cX9_mustGo 34 = .ok (.iload_n 3, 1) := by decide +kernel
theorem dX9_mustGo_35 : decode cX9_mustGo 35 = .ok (.aload_n 0, 1) := by decide +kernel
theorem dX9_mustGo_36 : decode cX9_mustGo 36 = .ok (.getfield 19, 3) := by decide +kernel
theorem dX9_mustGo_39 : decode cX9_mustGo 39 = .ok (.iconst 3, 1) := by decide +kernel
theorem dX9_mustGo_40 : decode cX9_mustGo 40 = .ok (.iaload, 1) := by decide +kernel
theorem dX9_mustGo_41 : decode cX9_mustGo 41 = .ok (.if_icmp .ge 36, 3) := by decide +kernel
theorem dX9_mustGo_44 : decode cX9_mustGo 44 = .ok (.iload_n 2, 1) := by decide +kernel
theorem dX9_mustGo_45 : decode cX9_mustGo 45 = .ok (.aload_n 0, 1) := by decide +kernel
theorem dX9_mustGo_46 : decode cX9_mustGo 46 = .ok (.iload_n 3, 1) := by decide +kernel
theorem dX9_mustGo_47 : decode cX9_mustGo 47 = .ok (.invokevirtual 250, 3) := by decide +kernel
theorem dX9_mustGo_50 : decode cX9_mustGo 50 = .ok (.ifCond .eq 18, 3) := by decide +kernel
theorem dX9_mustGo_53 : decode cX9_mustGo 53 = .ok (.aload_n 0, 1) := by decide +kernel
theorem dX9_mustGo_54 : decode cX9_mustGo 54 = .ok (.iload_n 3, 1) := by decide +kernel
theorem dX9_mustGo_55 : decode cX9_mustGo 55 = .ok (.invokevirtual 242, 3) := by decide +kernel
theorem dX9_mustGo_58 : decode cX9_mustGo 58 = .ok (.iload_n 1, 1) := by decide +kernel
theorem dX9_mustGo_59 : decode cX9_mustGo 59 = .ok (.if_icmp .ge 9, 3) := by decide +kernel
theorem dX9_mustGo_62 : decode cX9_mustGo 62 = .ok (.iconst 1, 1) := by decide +kernel
theorem dX9_mustGo_63 : decode cX9_mustGo 63 = .ok (.iload_n 3, 1) := by decide +kernel
theorem dX9_mustGo_64 : decode cX9_mustGo 64 = .ok (.ishl, 1) := by decide +kernel
theorem dX9_mustGo_65 : decode cX9_mustGo 65 = .ok (.goto 4, 3) := by decide +kernel
theorem dX9_mustGo_68 : decode cX9_mustGo 68 = .ok (.iconst 0, 1) := by decide +kernel
theorem dX9_mustGo_69 : decode cX9_mustGo 69 = .ok (.ior, 1) := by decide +kernel
theorem dX9_mustGo_70 : decode cX9_mustGo 70 = .ok (.istore_n 2, 1) := by decide +kernel
theorem dX9_mustGo_71 : decode cX9_mustGo 71 = .ok (.iinc 3 1, 3) := by decide +kernel
theorem dX9_mustGo_74 : decode cX9_mustGo 74 = .ok (.goto (-40), 3) := by decide +kernel
theorem dX9_mustGo_77 : decode cX9_mustGo 77 = .ok (.iload_n 2, 1) := by decide +kernel
theorem dX9_mustGo_78 : decode cX9_mustGo 78 = .ok (.ireturn, 1) := by decide +kernel
set_option maxRecDepth 20000 in
theorem ggX9_save_X9_in : GoodIn wsX9_save wsX9_in := goodIn_r _ [11] (by decide +kernel) (by decide +kernel)
set_option maxRecDepth 20000 in
theorem gX9_save_X9_in : GoodIn wsX9_save (va_wsS RX9 57 yX9_in wsX9_in) := goodIn_app (goodIn_of _ (by decide +kernel)) ggX9_save_X9_in
set_option maxRecDepth 20000 in
theorem ggX9_save_X9_canBeSaved : GoodIn wsX9_save wsX9_canBeSaved := goodIn_r _ [15, 16, 17, 18, 10, 19, 20, 21, 22, 23, 7, 24, 25, 26, 27, 28, 29, 30, 31, 32, 33, 34, 35, 6, 36, 37, 38, 39, 40, 41, 42, 43, 44, 45, 46, 47, 48, 49, 50, 51, 52, 53, 54, 55, 56, 57, 58, 59, 60, 61, 62, 63, 64, 65] (by decide +kernel) (by decide +kernel)
set_option maxRecDepth 20000 in
theorem gX9_save_X9_canBeSaved : GoodIn wsX9_save (wsV RX9 250 RX9 yX9_canBeSaved wsX9_canBeSaved) := goodIn_app (goodIn_of _ (by decide +kernel)) ggX9_save_X9_canBeSaved
set_option maxRecDepth 20000 in
theorem ggX9_save_X9_slackOf : GoodIn wsX9_save wsX9_slackOf := goodIn_r _ [19, 20, 21, 22, 10, 23, 7, 24, 25, 26, 27, 28, 29, 30, 31, 32, 33, 34, 35, 6, 36, 37, 38, 39, 40, 41, 42, 43, 44, 45, 46, 47, 48, 49, 50, 51, 52, 53, 54, 55, 56, 57, 58, 59, 60, 61, 62, 63, 64, 65] (by decide +kernel) (by decide +kernel)
set_option maxRecDepth 20000 in
theorem gX9_save_X9_slackOf : GoodIn wsX9_save (wsV RX9 242 RX9 yX9_slackOf wsX9_slackOf) := goodIn_app (goodIn_of _ (by decide +kernel)) ggX9_save_X9_slackOf
end
section
theorem dX9_save_0 : decode cX9_save 0 = .ok (.aload_n 0, 1) := by decide +kernel
theorem dX9_save_1 : decode cX9_save 1 = .ok (.iconst 0, 1) := by decide +kernel
theorem dX9_save_2 : decode cX9_save 2 = .ok (.putfield 47, 3) := by decide +kernel
theorem dX9_save_5 : decode cX9_save 5 = .ok (.aload_n 0, 1) := by decide +kernel
theorem dX9_save_6 : decode cX9_save 6 = .ok (.getfield 179, 3) := by decide +kernel
theorem dX9_save_9 : decode cX9_save 9 = .ok (.ifCond .ne 6, 3) := by decide +kernel
theorem dX9_save_12 : decode cX9_save 12 = .ok (.ldc 210, 2) := by decide +kernel
theorem dX9_save_14 : decode cX9_save 14 = .ok (.ireturn, 1) := by decide +kernel
theorem dX9_save_15 : decode cX9_save 15 = .ok (.iload_n 1, 1) := by decide +kernel
theorem dX9_save_16 : decode cX9_save 16 = .ok (.i2l, 1) := by decide +kernel
theorem dX9_save_17 : decode cX9_save 17 = .ok (.lconst 0, 1) := by decide +kernel
theorem dX9_save_18 : decode cX9_save 18 = .ok (.ldc2_w 224, 3) := by decide +kernel
theorem dX9_save_21 : decode cX9_save 21 = .ok (.invokestatic 57, 3) := by decide +kernel
theorem dX9_save_24 : decode cX9_save 24 = .ok (.ifCond .ne 6, 3) := by decide +kernel
theorem dX9_save_27 : decode cX9_save 27 = .ok (.ldc 67, 2) := by decide +kernel
theorem dX9_save_29 : decode cX9_save 29 = .ok (.ireturn, 1) := by decide +kernel
theorem dX9_save_30 : decode cX9_save 30 = .ok (.iconst 0, 1) := by decide +kernel
theorem dX9_save_31 : decode cX9_save 31 = .ok (.istore_n 2, 1) := by decide +kernel
theorem dX9_save_32 : decode cX9_save 32 = .ok (.iconst 0, 1) := by decide +kernel
theorem dX9_save_33 : decode cX9_save 33 = .ok (.istore_n 3, 1) := by decide +kernel
theorem dX9_save_34 : decode cX9_save 34 = .ok (.iload_n 3, 1) := by decide +kernel
theorem dX9_save_35 : decode cX9_save 35 = .ok (.iload_n 1, 1) := by decide +kernel
theorem dX9_save_36 : decode cX9_save 36 = .ok (.if_icmp .ge 112, 3) := by decide +kernel
theorem dX9_save_39 : decode cX9_save 39 = .ok (.ldc 83, 2) := by decide +kernel
theorem dX9_save_41 : decode cX9_save 41 = .ok (.istore 4, 2) := by decide +kernel
theorem dX9_save_43 : decode cX9_save 43 = .ok (.iconst 0, 1) := by decide +kernel
theorem dX9_save_44 : decode cX9_save 44 = .ok (.istore 5, 2) := by decide +kernel
theorem dX9_save_46 : decode cX9_save 46 = .ok (.iload 5, 2) := by decide +kernel
theorem dX9_save_48 : decode cX9_save 48 = .ok (.aload_n 0, 1) := by decide +kernel
theorem dX9_save_49 : decode cX9_save 49 = .ok (.getfield 19, 3) := by decide +kernel
theorem dX9_save_52 : decode cX9_save 52 = .ok (.iconst 3, 1) := by decide +kernel
theorem dX9_save_53 : decode cX9_save 53 = .ok (.iaload, 1) := by decide +kernel
theorem dX9_save_54 : decode cX9_save 54 = .ok (.if_icmp .ge 70, 3) := by decide +kernel
theorem dX9_save_57 : decode cX9_save 57 = .ok (.aload_n 0, 1) := by decide +kernel
theorem dX9_save_58 : decode cX9_save 58 = .ok (.iload 5, 2) := by decide +kernel
theorem dX9_save_60 : decode cX9_save 60 = .ok (.invokevirtual 250, 3) := by decide +kernel
theorem dX9_save_63 : decode cX9_save 63 = .ok (.ifCond .eq 16, 3) := by decide +kernel
theorem dX9_save_66 : decode cX9_save 66 = .ok (.iload_n 2, 1) := by decide +kernel
theorem dX9_save_67 : decode cX9_save 67 = .ok (.iload 5, 2) := by decide +kernel
theorem dX9_save_69 : decode cX9_save 69 = .ok (.ishr, 1) := by decide +kernel
theorem dX9_save_70 : decode cX9_save 70 = .ok (.iconst 1, 1) := by decide +kernel
theorem dX9_save_71 : decode cX9_save 71 = .ok (.iand, 1) := by decide +kernel
theorem dX9_save_72 : decode cX9_save 72 = .ok (.ifCond .ne 7, 3) := by decide +kernel
theorem dX9_save_75 : decode cX9_save 75 = .ok (.iconst 1, 1) := by decide +kernel
theorem dX9_save_76 : decode cX9_save 76 = .ok (.goto 4, 3) := by decide +kernel
theorem dX9_save_79 : decode cX9_save 79 = .ok (.iconst 0, 1) := by decide +kernel
theorem dX9_save_80 : decode cX9_save 80 = .ok (.istore 6, 2) := by decide +kernel
theorem dX9_save_82 : decode cX9_save 82 = .ok (.iload 6, 2) := by decide +kernel
theorem dX9_save_84 : decode cX9_save 84 = .ok (.ifCond .eq 30, 3) := by decide +kernel
theorem dX9_save_87 : decode cX9_save 87 = .ok (.iload 4, 2) := by decide +kernel
theorem dX9_save_89 : decode cX9_save 89 = .ok (.ldc 83, 2) := by decide +kernel
theorem dX9_save_91 : decode cX9_save 91 = .ok (.if_icmp .eq 18, 3) := by decide +kernel
theorem dX9_save_94 : decode cX9_save 94 = .ok (.aload_n 0, 1) := by decide +kernel
theorem dX9_save_95 : decode cX9_save 95 = .ok (.iload 5, 2) := by decide +kernel
theorem dX9_save_97 : decode cX9_save 97 = .ok (.invokevirtual 242, 3) := by decide +kernel
theorem dX9_save_100 : decode cX9_save 100 = .ok (.aload_n 0, 1) := by decide +kernel
theorem dX9_save_101 : decode cX9_save 101 = .ok (.iload 4, 2) := by decide +kernel
theorem dX9_save_103 : decode cX9_save 103 = .ok (.invokevirtual 242, 3) := by decide +kernel
theorem dX9_save_106 : decode cX9_save 106 = .ok (.if_icmp .ge 8, 3) := by decide +kernel
theorem dX9_save_109 : decode cX9_save 109 = .ok (.iload 5, 2) := by decide +kernel
theorem dX9_save_111 : decode cX9_save 111 = .ok (.goto 5, 3) := by decide +kernel
theorem dX9_save_114 : decode cX9_save 114 = .ok (.iload 4, 2) := by decide +kernel
theorem dX9_save_116 : decode cX9_save 116 = .ok (.istore 4, 2) := by decide +kernel
theorem dX9_save_118 : decode cX9_save 118 = .ok (.iinc 5 1, 3) := by decide +kernel
theorem dX9_save_121 : decode cX9_save 121 = .ok (.goto (-75), 3) := by decide +kernel
theorem dX9_save_124 : decode cX9_save 124 = .ok (.iload_n 2, 1) := by decide +kernel
theorem dX9_save_125 : decode cX9_save 125 = .ok (.iload 4, 2) := by decide +kernel
theorem dX9_save_127 : decode cX9_save 127 = .ok (.ldc 83, 2) := by decide +kernel
theorem dX9_save_129 : decode cX9_save 129 = .ok (.if_icmp .ne 7, 3) := by decide +kernel
theorem dX9_save_132 : decode cX9_save 132 = .ok (.iconst 0, 1) := by decide +kernel
theorem dX9_save_133 : decode cX9_save 133 = .ok (.goto 7, 3) := by decide +kernel
theorem dX9_save_136 : decode cX9_save 136 = .ok (.iconst 1, 1) := by decide +kernel
theorem dX9_save_137 : decode cX9_save 137 = .ok (.iload 4, 2) := by decide +kernel
theorem dX9_save_139 : decode cX9_save 139 = .ok (.ishl, 1) := by decide +kernel
theorem dX9_save_140 : decode cX9_save 140 = .ok (.ior, 1) := by decide +kernel
theorem dX9_save_141 : decode cX9_save 141 = .ok (.istore_n 2, 1) := by decide +kernel
theorem dX9_save_142 : decode cX9_save 142 = .ok (.iinc 3 1, 3) := by decide +kernel
theorem dX9_save_145 : decode cX9_save 145 = .ok (.goto (-111), 3) := by decide +kernel
theorem dX9_save_148 : decode cX9_save 148 = .ok (.iload_n 2, 1) := by decide +kernel
theorem dX9_save_149 : decode cX9_save 149 = .ok (.ireturn, 1) := by decide +kernel
set_option maxRecDepth 20000 in
theorem ggX9_daysOf_X9_farOf : GoodIn wsX9_daysOf wsX9_farOf := goodIn_r _ [7, 1, 8, 9, 10, 11, 12, 13, 14, 15, 16, 17, 18, 19, 20, 21, 22, 23, 24, 25, 26, 27, 28, 29, 30, 31, 32, 33] (by decide +kernel) (by decide +kernel)
set_option maxRecDepth 20000 in
theorem gX9_daysOf_X9_farOf : GoodIn wsX9_daysOf (wsV RX9 198 RX9 yX9_farOf wsX9_farOf) := goodIn_app (goodIn_of _ (by decide +kernel)) ggX9_daysOf_X9_farOf
theorem dX9_daysOf_0 : decode cX9_daysOf 0 = .ok (.iconst 0, 1) := by decide +kernel
theorem dX9_daysOf_1 : decode cX9_daysOf 1 = .ok (.istore_n 2, 1) := by decide +kernel
theorem dX9_daysOf_2 : decode cX9_daysOf 2 = .ok (.iconst 0, 1) := by decide +kernel
theorem dX9_daysOf_3 : decode cX9_daysOf 3 = .ok (.istore_n 3, 1) := by decide +kernel
theorem dX9_daysOf_4 : decode cX9_daysOf 4 = .ok (.iconst 0, 1) := by decide +kernel
theorem dX9_daysOf_5 : decode cX9_daysOf 5 = .ok (.istore 4, 2) := by decide +kernel
theorem dX9_daysOf_7 : decode cX9_daysOf 7 = .ok (.iload 4, 2) := by decide +kernel
theorem dX9_daysOf_9 : decode cX9_daysOf 9 = .ok (.iload_n 1, 1) := by decide +kernel
theorem dX9_daysOf_10 : decode cX9_daysOf 10 = .ok (.if_icmp .ge 48, 3) := by decide +kernel
theorem dX9_daysOf_13 : decode cX9_daysOf 13 = .ok (.iload_n 3, 1) := by decide +kernel
theorem dX9_daysOf_14 : decode cX9_daysOf 14 = .ok (.aload_n 0, 1) := by decide +kernel
theorem dX9_daysOf_15 : decode cX9_daysOf 15 = .ok (.iload_n 2, 1) := by decide +kernel
theorem dX9_daysOf_16 : decode cX9_daysOf 16 = .ok (.aload_n 0, 1) := by decide +kernel
theorem dX9_daysOf_17 : decode cX9_daysOf 17 = .ok (.getfield 19, 3) := by decide +kernel
theorem dX9_daysOf_20 : decode cX9_daysOf 20 = .ok (.bipush 69, 2) := by decide +kernel
theorem dX9_daysOf_22 : decode cX9_daysOf 22 = .ok (.aload_n 0, 1) := by decide +kernel
theorem dX9_daysOf_23 : decode cX9_daysOf 23 = .ok (.getfield 31, 3) := by decide +kernel
theorem dX9_daysOf_26 : decode cX9_daysOf 26 = .ok (.iload 4, 2) := by decide +kernel
theorem dX9_daysOf_28 : decode cX9_daysOf 28 = .ok (.iaload, 1) := by decide +kernel
theorem dX9_daysOf_29 : decode cX9_daysOf 29 = .ok (.iadd, 1) := by decide +kernel
theorem dX9_daysOf_30 : decode cX9_daysOf 30 = .ok (.iaload, 1) := by decide +kernel
theorem dX9_daysOf_31 : decode cX9_daysOf 31 = .ok (.invokevirtual 198, 3) := by decide +kernel
theorem dX9_daysOf_34 : decode cX9_daysOf 34 = .ok (.iadd, 1) := by decide +kernel
theorem dX9_daysOf_35 : decode cX9_daysOf 35 = .ok (.istore_n 3, 1) := by decide +kernel
theorem dX9_daysOf_36 : decode cX9_daysOf 36 = .ok (.aload_n 0, 1) := by decide +kernel
theorem dX9_daysOf_37 : decode cX9_daysOf 37 = .ok (.getfield 19, 3) := by decide +kernel
theorem dX9_daysOf_40 : decode cX9_daysOf 40 = .ok (.bipush 69, 2) := by decide +kernel
theorem dX9_daysOf_42 : decode cX9_daysOf 42 = .ok (.aload_n 0, 1) := by decide +kernel
theorem dX9_daysOf_43 : decode cX9_daysOf 43 = .ok (.getfield 31, 3) := by decide +kernel
theorem dX9_daysOf_46 : decode cX9_daysOf 46 = .ok (.iload 4, 2) := by decide +kernel
theorem dX9_daysOf_48 : decode cX9_daysOf 48 = .ok (.iaload, 1) := by decide +kernel
theorem dX9_daysOf_49 : decode cX9_daysOf 49 = .ok (.iadd, 1) := by decide +kernel
theorem dX9_daysOf_50 : decode cX9_daysOf 50 = .ok (.iaload, 1) := by decide +kernel
theorem dX9_daysOf_51 : decode cX9_daysOf 51 = .ok (.istore_n 2, 1) := by decide +kernel
theorem dX9_daysOf_52 : decode cX9_daysOf 52 = .ok (.iinc 4 1, 3) := by decide +kernel
theorem dX9_daysOf_55 : decode cX9_daysOf 55 = .ok (.goto (-48), 3) := by decide +kernel
theorem dX9_daysOf_58 : decode cX9_daysOf 58 = .ok (.iload_n 3, 1) := by decide +kernel
theorem dX9_daysOf_59 : decode cX9_daysOf 59 = .ok (.aload_n 0, 1) := by decide +kernel
theorem dX9_daysOf_60 : decode cX9_daysOf 60 = .ok (.iload_n 2, 1) := by decide +kernel
theorem dX9_daysOf_61 : decode cX9_daysOf 61 = .ok (.iconst 0, 1) := by decide +kernel
theorem dX9_daysOf_62 : decode cX9_daysOf 62 = .ok (.invokevirtual 198, 3) := by decide +kernel
theorem dX9_daysOf_65 : decode cX9_daysOf 65 = .ok (.iadd, 1) := by decide +kernel
theorem dX9_daysOf_66 : decode cX9_daysOf 66 = .ok (.istore_n 3, 1) := by decide +kernel
theorem dX9_daysOf_67 : decode cX9_daysOf 67 = .ok (.iload_n 3, 1) := by decide +kernel
theorem dX9_daysOf_68 : decode cX9_daysOf 68 = .ok (.sipush 10000, 3) := by decide +kernel
theorem dX9_daysOf_71 : decode cX9_daysOf 71 = .ok (.if_icmp .ge 7, 3) := by decide +kernel
theorem dX9_daysOf_74 : decode cX9_daysOf 74 = .ok (.iload_n 3, 1) := by decide +kernel
theorem dX9_daysOf_75 : decode cX9_daysOf 75 = .ok (.goto 6, 3) := by decide +kernel
theorem dX9_daysOf_78 : decode cX9_daysOf 78 = .ok (.sipush 10000, 3) := by decide +kernel
theorem dX9_daysOf_81 : decode cX9_daysOf 81 = .ok (.ireturn, 1) := by decide +kernel
theorem dX9_nextOrder_0 : decode cX9_nextOrder 0 = .ok (.iload_n 1, 1) := by decide +kernel
theorem dX9_nextOrder_1 : decode cX9_nextOrder 1 = .ok (.iconst 2, 1) := by decide +kernel
theorem dX9_nextOrder_2 : decode cX9_nextOrder 2 = .ok (.isub, 1) := by decide +kernel
theorem dX9_nextOrder_3 : decode cX9_nextOrder 3 = .ok (.istore_n 2, 1) := by decide +kernel
theorem dX9_nextOrder_4 : decode cX9_nextOrder 4 = .ok (.iload_n 2, 1) := by decide +kernel
theorem dX9_nextOrder_5 : decode cX9_nextOrder 5 = .ok (.ifCond .lt 26, 3) := by decide +kernel
theorem dX9_nextOrder_8 : decode cX9_nextOrder 8 = .ok (.aload_n 0, 1) := by decide +kernel
theorem dX9_nextOrder_9 : decode cX9_nextOrder 9 = .ok (.getfield 31, 3) := by decide +kernel
theorem dX9_nextOrder_12 : decode cX9_nextOrder 12 = .ok (.iload_n 2, 1) := by decide +kernel
theorem dX9_nextOrder_13 : decode cX9_nextOrder 13 = .ok (.iaload, 1) := by decide +kernel
theorem dX9_nextOrder_14 : decode cX9_nextOrder 14 = .ok (.aload_n 0, 1) := by decide +kernel
theorem dX9_nextOrder_15 : decode cX9_nextOrder 15 = .ok (.getfield 31, 3) := by decide +kernel
theorem dX9_nextOrder_18 : decode cX9_nextOrder 18 = .ok (.iload_n 2, 1) := by decide +kernel
theorem dX9_nextOrder_19 : decode cX9_nextOrder 19 = .ok (.iconst 1, 1) := by decide +kernel
theorem dX9_nextOrder_20 : decode cX9_nextOrder 20 = .ok (.iadd, 1) := by decide +kernel
theorem dX9_nextOrder_21 : decode cX9_nextOrder 21 = .ok (.iaload, 1) := by decide +kernel
theorem dX9_nextOrder_22 : decode cX9_nextOrder 22 = .ok (.if_icmp .le 9, 3) := by decide +kernel
theorem dX9_nextOrder_25 : decode cX9_nextOrder 25 = .ok (.iinc 2 (-1), 3) := by decide +kernel
theorem dX9_nextOrder_28 : decode cX9_nextOrder 28 = .ok (.goto (-24), 3) := by decide +kernel
theorem dX9_nextOrder_31 : decode cX9_nextOrder 31 = .ok (.iload_n 2, 1) := by decide +kernel
theorem dX9_nextOrder_32 : decode cX9_nextOrder 32 = .ok (.ifCond .ge 5, 3) := by decide +kernel
theorem dX9_nextOrder_35 : decode cX9_nextOrder 35 = .ok (.iconst 0, 1) := by decide +kernel
theorem dX9_nextOrder_36 : decode cX9_nextOrder 36 = .ok (.ireturn, 1) := by decide +kernel
theorem dX9_nextOrder_37 : decode cX9_nextOrder 37 = .ok (.iload_n 1, 1) := by decide +kernel
theorem dX9_nextOrder_38 : decode cX9_nextOrder 38 = .ok (.iconst 1, 1) := by decide +kernel
theorem dX9_nextOrder_39 : decode cX9_nextOrder 39 = .ok (.isub, 1) := by decide +kernel
theorem dX9_nextOrder_40 : decode cX9_nextOrder 40 = .ok (.istore_n 3, 1) := by decide +kernel
theorem dX9_nextOrder_41 : decode cX9_nextOrder 41 = .ok (.aload_n 0, 1) := by decide +kernel
theorem dX9_nextOrder_42 : decode cX9_nextOrder 42 = .ok (.getfield 31, 3) := by decide +kernel
theorem dX9_nextOrder_45 : decode cX9_nextOrder 45 = .ok (.iload_n 3, 1) := by decide +kernel
theorem dX9_nextOrder_46 : decode cX9_nextOrder 46 = .ok (.iaload, 1) := by decide +kernel
theorem dX9_nextOrder_47 : decode cX9_nextOrder 47 = .ok (.aload_n 0, 1) := by decide +kernel
theorem dX9_nextOrder_48 : decode cX9_nextOrder 48 = .ok (.getfield 31, 3) := by decide +kernel
theorem dX9_nextOrder_51 : decode cX9_nextOrder 51 = .ok (.iload_n 2, 1) := by decide +kernel
theorem dX9_nextOrder_52 : decode cX9_nextOrder 52 = .ok (.iaload, 1) := by decide +kernel
theorem dX9_nextOrder_53 : decode cX9_nextOrder 53 = .ok (.if_icmp .ge 9, 3) := by decide +kernel
theorem dX9_nextOrder_56 : decode cX9_nextOrder 56 = .ok (.iinc 3 (-1), 3) := by decide +kernel
theorem dX9_nextOrder_59 : decode cX9_nextOrder 59 = .ok (.goto (-18), 3) := by decide +kernel
theorem dX9_nextOrder_62 : decode cX9_nextOrder 62 = .ok (.aload_n 0, 1) := by decide +kernel
theorem dX9_nextOrder_63 : decode cX9_nextOrder 63 = .ok (.getfield 31, 3) := by decide +kernel
theorem dX9_nextOrder_66 : decode cX9_nextOrder 66 = .ok (.iload_n 2, 1) := by decide +kernel
theorem dX9_nextOrder_67 : decode cX9_nextOrder 67 = .ok (.iaload, 1) := by decide +kernel
theorem dX9_nextOrder_68 : decode cX9_nextOrder 68 = .ok (.istore 4, 2) := by decide +kernel
theorem dX9_nextOrder_70 : decode cX9_nextOrder 70 = .ok (.aload_n 0, 1) := by decide +kernel
theorem dX9_nextOrder_71 : decode cX9_nextOrder 71 = .ok (.getfield 31, 3) := by decide +kernel
theorem dX9_nextOrder_74 : decode cX9_nextOrder 74 = .ok (.iload_n 2, 1) := by decide +kernel
theorem dX9_nextOrder_75 : decode cX9_nextOrder 75 = .ok (.aload_n 0, 1) := by decide +kernel
theorem dX9_nextOrder_76 : decode cX9_nextOrder 76 = .ok (.getfield 31, 3) := by decide +kernel
theorem dX9_nextOrder_79 : decode cX9_nextOrder 79 = .ok (.iload_n 3, 1) := by decide +kernel
theorem dX9_nextOrder_80 : decode cX9_nextOrder 80 = .ok (.iaload, 1) := by decide +kernel
theorem dX9_nextOrder_81 : decode cX9_nextOrder 81 = .ok (.iastore, 1) := by decide +kernel
theorem dX9_nextOrder_82 : decode cX9_nextOrder 82 = .ok (.aload_n 0, 1) := by decide +kernel
theorem dX9_nextOrder_83 : decode cX9_nextOrder 83 = .ok (.getfield 31, 3) := by decide +kernel
theorem dX9_nextOrder_86 : decode cX9_nextOrder 86 = .ok (.iload_n 3, 1) := by decide +kernel
theorem dX9_nextOrder_87 : decode cX9_nextOrder 87 = .ok (.iload 4, 2) := by decide +kernel
theorem dX9_nextOrder_89 : decode cX9_nextOrder 89 = .ok (.iastore, 1) := by decide +kernel
theorem dX9_nextOrder_90 : decode cX9_nextOrder 90 = .ok (.iload_n 1, 1) := by decide +kernel
theorem dX9_nextOrder_91 : decode cX9_nextOrder 91 = .ok (.iconst 1, 1) := by decide +kernel
theorem dX9_nextOrder_92 : decode cX9_nextOrder 92 = .ok (.isub, 1) := by decide +kernel
theorem dX9_nextOrder_93 : decode cX9_nextOrder 93 = .ok (.istore 5, 2) := by decide +kernel
theorem dX9_nextOrder_95 : decode cX9_nextOrder 95 = .ok (.iload_n 2, 1) := by decide +kernel
theorem dX9_nextOrder_96 : decode cX9_nextOrder 96 = .ok (.iconst 1, 1) := by decide +kernel
theorem dX9_nextOrder_97 : decode cX9_nextOrder 97 = .ok (.iadd, 1) := by decide +kernel
theorem dX9_nextOrder_98 : decode cX9_nextOrder 98 = .ok (.istore 6, 2) := by decide +kernel
theorem dX9_nextOrder_100 : decode cX9_nextOrder 100 = .ok (.iload 6, 2) := by decide +kernel
theorem dX9_nextOrder_102 : decode cX9_nextOrder 102 = .ok (.iload 5, 2) := by decide +kernel
theorem dX9_nextOrder_104 : decode cX9_nextOrder 104 = .ok (.if_icmp .ge 44, 3) := by decide +kernel
theorem dX9_nextOrder_107 : decode cX9_nextOrder 107 = .ok (.aload_n 0, 1) := by decide +kernel
theorem dX9_nextOrder_108 : decode cX9_nextOrder 108 = .ok (.getfield 31, 3) := by decide +kernel
theorem dX9_nextOrder_111 : decode cX9_nextOrder 111 = .ok (.iload 6, 2) := by decide +kernel
theorem dX9_nextOrder_113 : decode cX9_nextOrder 113 = .ok (.iaload, 1) := by decide +kernel
theorem dX9_nextOrder_114 : decode cX9_nextOrder 114 = .ok (.istore 4, 2) := by decide +kernel
theorem dX9_nextOrder_116 : decode cX9_nextOrder 116 = .ok (.aload_n 0, 1) := by decide +kernel
theorem dX9_nextOrder_117 : decode cX9_nextOrder 117 = .ok (.getfield 31, 3) := by decide +kernel
theorem dX9_nextOrder_120 : decode cX9_nextOrder 120 = .ok (.iload 6, 2) := by decide +kernel
theorem dX9_nextOrder_122 : decode cX9_nextOrder 122 = .ok (.aload_n 0, 1) := by decide +kernel
theorem dX9_nextOrder_123 : decode cX9_nextOrder 123 = .ok (.getfield 31, 3) := by decide +kernel
theorem dX9_nextOrder_126 : decode cX9_nextOrder 126 = .ok (.iload 5, 2) := by decide +kernel
theorem dX9_nextOrder_128 : decode cX9_nextOrder 128 = .ok (.iaload, 1) := by decide +kernel
theorem dX9_nextOrder_129 : decode cX9_nextOrder 129 = .ok (.iastore, 1) := by decide +kernel
theorem dX9_nextOrder_130 : decode cX9_nextOrder 130 = .ok (.aload_n 0, 1) := by decide +kernel
theorem dX9_nextOrder_131 : decode cX9_nextOrder 131 = .ok (.getfield 31, 3) := by decide +kernel
theorem dX9_nextOrder_134 : decode cX9_nextOrder 134 = .ok (.iload 5, 2) := by decide +kernel
theorem dX9_nextOrder_136 : decode cX9_nextOrder 136 = .ok (.iload 4, 2) := by decide +kernel
theorem dX9_nextOrder_138 : decode cX9_nextOrder 138 = .ok (.iastore, 1) := by decide +kernel
theorem dX9_nextOrder_139 : decode cX9_nextOrder 139 = .ok (.iinc 5 (-1), 3) := by decide +kernel
theorem dX9_nextOrder_142 : decode cX9_nextOrder 142 = .ok (.iinc 6 1, 3) := by decide +kernel
theorem dX9_nextOrder_145 : decode cX9_nextOrder 145 = .ok (.goto (-45), 3) := by decide +kernel
theorem dX9_nextOrder_148 : decode cX9_nextOrder 148 = .ok (.iconst 1, 1) := by decide +kernel
theorem dX9_nextOrder_149 : decode cX9_nextOrder 149 = .ok (.ireturn, 1) := by decide +kernel
set_option maxRecDepth 20000 in
theorem ggX9_layTour_X9_daysOf : GoodIn wsX9_layTour wsX9_daysOf := goodIn_r _ [7, 8, 1, 9, 10, 11, 6, 12, 17, 18, 19, 20, 21, 22, 23, 24, 25, 26, 27, 28, 29, 30, 31, 32, 33, 34, 35, 36, 37, 38, 39, 40, 41, 42] (by decide +kernel) (by decide +kernel)
set_option maxRecDepth 20000 in
theorem gX9_layTour_X9_daysOf : GoodIn wsX9_layTour (wsV RX9 253 RX9 yX9_daysOf wsX9_daysOf) := goodIn_app (goodIn_of _ (by decide +kernel)) ggX9_layTour_X9_daysOf
set_option maxRecDepth 20000 in
theorem ggX9_layTour_X9_nextOrder : GoodIn wsX9_layTour wsX9_nextOrder := goodIn_r _ [16, 1, 17, 18, 19, 20, 21, 22, 23, 24, 25, 26, 27, 28, 29, 30, 31, 32, 33, 34, 35, 36, 37, 38, 39, 40, 41, 42] (by decide +kernel) (by decide +kernel)
set_option maxRecDepth 20000 in
theorem gX9_layTour_X9_nextOrder : GoodIn wsX9_layTour (wsV RX9 256 RX9 yX9_nextOrder wsX9_nextOrder) := goodIn_app (goodIn_of _ (by decide +kernel)) ggX9_layTour_X9_nextOrder
theorem dX9_layTour_0 : decode cX9_layTour 0 = .ok (.iconst 0, 1) := by decide +kernel
theorem dX9_layTour_1 : decode cX9_layTour 1 = .ok (.istore_n 2, 1) := by decide +kernel
theorem dX9_layTour_2 : decode cX9_layTour 2 = .ok (.iconst 0, 1) := by decide +kernel
theorem dX9_layTour_3 : decode cX9_layTour 3 = .ok (.istore_n 3, 1) := by decide +kernel
theorem dX9_layTour_4 : decode cX9_layTour 4 = .ok (.iload_n 3, 1) := by decide +kernel
theorem dX9_layTour_5 : decode cX9_layTour 5 = .ok (.bipush 6, 2) := by decide +kernel
theorem dX9_layTour_7 : decode cX9_layTour 7 = .ok (.if_icmp .ge 28, 3) := by decide +kernel
theorem dX9_layTour_10 : decode cX9_layTour 10 = .ok (.iload_n 1, 1) := by decide +kernel
theorem dX9_layTour_11 : decode cX9_layTour 11 = .ok (.iload_n 3, 1) := by decide +kernel
theorem dX9_layTour_12 : decode cX9_layTour 12 = .ok (.ishr, 1) := by decide +kernel
theorem dX9_layTour_13 : decode cX9_layTour 13 = .ok (.iconst 1, 1) := by decide +kernel
theorem dX9_layTour_14 : decode cX9_layTour 14 = .ok (.iand, 1) := by decide +kernel
theorem dX9_layTour_15 : decode cX9_layTour 15 = .ok (.iconst 1, 1) := by decide +kernel
theorem dX9_layTour_16 : decode cX9_layTour 16 = .ok (.if_icmp .ne 13, 3) := by decide +kernel
theorem dX9_layTour_19 : decode cX9_layTour 19 = .ok (.aload_n 0, 1) := by decide +kernel
theorem dX9_layTour_20 : decode cX9_layTour 20 = .ok (.getfield 31, 3) := by decide +kernel
theorem dX9_layTour_23 : decode cX9_layTour 23 = .ok (.iload_n 2, 1) := by decide +kernel
theorem dX9_layTour_24 : decode cX9_layTour 24 = .ok (.iload_n 3, 1) := by decide +kernel
theorem dX9_layTour_25 : decode cX9_layTour 25 = .ok (.iastore, 1) := by decide +kernel
theorem dX9_layTour_26 : decode cX9_layTour 26 = .ok (.iinc 2 1, 3) := by decide +kernel
theorem dX9_layTour_29 : decode cX9_layTour 29 = .ok (.iinc 3 1, 3) := by decide +kernel
theorem dX9_layTour_32 : decode cX9_layTour 32 = .ok (.goto (-28), 3) := by decide +kernel
theorem dX9_layTour_35 : decode cX9_layTour 35 = .ok (.sipush 10000, 3) := by decide +kernel
theorem dX9_layTour_38 : decode cX9_layTour 38 = .ok (.istore_n 3, 1) := by decide +kernel
theorem dX9_layTour_39 : decode cX9_layTour 39 = .ok (.iconst 1, 1) := by decide +kernel
theorem dX9_layTour_40 : decode cX9_layTour 40 = .ok (.istore 4, 2) := by decide +kernel
theorem dX9_layTour_42 : decode cX9_layTour 42 = .ok (.iload 4, 2) := by decide +kernel
theorem dX9_layTour_44 : decode cX9_layTour 44 = .ok (.ifCond .eq 58, 3) := by decide +kernel
theorem dX9_layTour_47 : decode cX9_layTour 47 = .ok (.aload_n 0, 1) := by decide +kernel
theorem dX9_layTour_48 : decode cX9_layTour 48 = .ok (.iload_n 2, 1) := by decide +kernel
theorem dX9_layTour_49 : decode cX9_layTour 49 = .ok (.invokevirtual 253, 3) := by decide +kernel
theorem dX9_layTour_52 : decode cX9_layTour 52 = .ok (.istore 5, 2) := by decide +kernel
theorem dX9_layTour_54 : decode cX9_layTour 54 = .ok (.iload 5, 2) := by decide +kernel
theorem dX9_layTour_56 : decode cX9_layTour 56 = .ok (.iload_n 3, 1) := by decide +kernel
theorem dX9_layTour_57 : decode cX9_layTour 57 = .ok (.if_icmp .ge 35, 3) := by decide +kernel
theorem dX9_layTour_60 : decode cX9_layTour 60 = .ok (.iload 5, 2) := by decide +kernel
theorem dX9_layTour_62 : decode cX9_layTour 62 = .ok (.istore_n 3, 1) := by decide +kernel
theorem dX9_layTour_63 : decode cX9_layTour 63 = .ok (.iconst 0, 1) := by decide +kernel
theorem dX9_layTour_64 : decode cX9_layTour 64 = .ok (.istore 6, 2) := by decide +kernel
theorem dX9_layTour_66 : decode cX9_layTour 66 = .ok (.iload 6, 2) := by decide +kernel
theorem dX9_layTour_68 : decode cX9_layTour 68 = .ok (.iload_n 2, 1) := by decide +kernel
theorem dX9_layTour_69 : decode cX9_layTour 69 = .ok (.if_icmp .ge 23, 3) := by decide +kernel
theorem dX9_layTour_72 : decode cX9_layTour 72 = .ok (.aload_n 0, 1) := by decide +kernel
theorem dX9_layTour_73 : decode cX9_layTour 73 = .ok (.getfield 34, 3) := by decide +kernel
theorem dX9_layTour_76 : decode cX9_layTour 76 = .ok (.iload 6, 2) := by decide +kernel
theorem dX9_layTour_78 : decode cX9_layTour 78 = .ok (.aload_n 0, 1) := by decide +kernel
theorem dX9_layTour_79 : decode cX9_layTour 79 = .ok (.getfield 31, 3) := by decide +kernel
theorem dX9_layTour_82 : decode cX9_layTour 82 = .ok (.iload 6, 2) := by decide +kernel
theorem dX9_layTour_84 : decode cX9_layTour 84 = .ok (.iaload, 1) := by decide +kernel
theorem dX9_layTour_85 : decode cX9_layTour 85 = .ok (.iastore, 1) := by decide +kernel
theorem dX9_layTour_86 : decode cX9_layTour 86 = .ok (.iinc 6 1, 3) := by decide +kernel
theorem dX9_layTour_89 : decode cX9_layTour 89 = .ok (.goto (-23), 3) := by decide +kernel
theorem dX9_layTour_92 : decode cX9_layTour 92 = .ok (.aload_n 0, 1) := by decide +kernel
theorem dX9_layTour_93 : decode cX9_layTour 93 = .ok (.iload_n 2, 1) := by decide +kernel
theorem dX9_layTour_94 : decode cX9_layTour 94 = .ok (.invokevirtual 256, 3) := by decide +kernel
theorem dX9_layTour_97 : decode cX9_layTour 97 = .ok (.istore 4, 2) := by decide +kernel
theorem dX9_layTour_99 : decode cX9_layTour 99 = .ok (.goto (-57), 3) := by decide +kernel
theorem dX9_layTour_102 : decode cX9_layTour 102 = .ok (.iload_n 3, 1) := by decide +kernel
theorem dX9_layTour_103 : decode cX9_layTour 103 = .ok (.ireturn, 1) := by decide +kernel
set_option maxRecDepth 20000 in
theorem ggX9_savedBy_X9_of : GoodIn wsX9_savedBy wsX9_of := goodIn_r _ [6, 1, 11, 12, 13, 14, 15, 16, 17, 18, 19, 20, 21, 22, 23, 24, 25, 26, 27, 28, 29, 30, 31, 32, 33, 34, 35, 36] (by decide +kernel) (by decide +kernel)
set_option maxRecDepth 20000 in
theorem gX9_savedBy_X9_of : GoodIn wsX9_savedBy (wsV RX9 189 RX9 yX9_of wsX9_of) := goodIn_app (goodIn_of _ (by decide +kernel)) ggX9_savedBy_X9_of
set_option maxRecDepth 20000 in
theorem ggX9_savedBy_X9_spanOf : GoodIn wsX9_savedBy wsX9_spanOf := goodIn_r _ [10, 1, 2, 3, 4, 5, 6, 11, 12, 13, 14, 15, 16, 17, 18, 19, 20, 21, 22, 23, 24, 25, 26, 27, 28, 29, 30, 31, 32, 33, 34, 35, 36] (by decide +kernel) (by decide +kernel)
set_option maxRecDepth 20000 in
theorem gX9_savedBy_X9_spanOf : GoodIn wsX9_savedBy (wsV RX9 192 RX9 yX9_spanOf wsX9_spanOf) := goodIn_app (goodIn_of _ (by decide +kernel)) ggX9_savedBy_X9_spanOf
theorem dX9_savedBy_0 : decode cX9_savedBy 0 = .ok (.iconst 0, 1) := by decide +kernel
theorem dX9_savedBy_1 : decode cX9_savedBy 1 = .ok (.istore_n 3, 1) := by decide +kernel
theorem dX9_savedBy_2 : decode cX9_savedBy 2 = .ok (.iconst 0, 1) := by decide +kernel
theorem dX9_savedBy_3 : decode cX9_savedBy 3 = .ok (.istore 4, 2) := by decide +kernel
theorem dX9_savedBy_5 : decode cX9_savedBy 5 = .ok (.iload 4, 2) := by decide +kernel
theorem dX9_savedBy_7 : decode cX9_savedBy 7 = .ok (.aload_n 0, 1) := by decide +kernel
theorem dX9_savedBy_8 : decode cX9_savedBy 8 = .ok (.getfield 19, 3) := by decide +kernel
theorem dX9_savedBy_11 : decode cX9_savedBy 11 = .ok (.iconst 3, 1) := by decide +kernel
theorem dX9_savedBy_12 : decode cX9_savedBy 12 = .ok (.iaload, 1) := by decide +kernel
theorem dX9_savedBy_13 : decode cX9_savedBy 13 = .ok (.if_icmp .ge 105, 3) := by decide +kernel
theorem dX9_savedBy_16 : decode cX9_savedBy 16 = .ok (.aload_n 0, 1) := by decide +kernel
theorem dX9_savedBy_17 : decode cX9_savedBy 17 = .ok (.iload 4, 2) := by decide +kernel
theorem dX9_savedBy_19 : decode cX9_savedBy 19 = .ok (.iconst 3, 1) := by decide +kernel
theorem dX9_savedBy_20 : decode cX9_savedBy 20 = .ok (.invokevirtual 189, 3) := by decide +kernel
theorem dX9_savedBy_23 : decode cX9_savedBy 23 = .ok (.ifCond .ne 22, 3) := by decide +kernel
theorem dX9_savedBy_26 : decode cX9_savedBy 26 = .ok (.iload_n 1, 1) := by decide +kernel
theorem dX9_savedBy_27 : decode cX9_savedBy 27 = .ok (.aload_n 0, 1) := by decide +kernel
theorem dX9_savedBy_28 : decode cX9_savedBy 28 = .ok (.iload 4, 2) := by decide +kernel
theorem dX9_savedBy_30 : decode cX9_savedBy 30 = .ok (.iconst 1, 1) := by decide +kernel
theorem dX9_savedBy_31 : decode cX9_savedBy 31 = .ok (.invokevirtual 189, 3) := by decide +kernel
theorem dX9_savedBy_34 : decode cX9_savedBy 34 = .ok (.ishr, 1) := by decide +kernel
theorem dX9_savedBy_35 : decode cX9_savedBy 35 = .ok (.iconst 1, 1) := by decide +kernel
theorem dX9_savedBy_36 : decode cX9_savedBy 36 = .ok (.iand, 1) := by decide +kernel
theorem dX9_savedBy_37 : decode cX9_savedBy 37 = .ok (.iconst 1, 1) := by decide +kernel
theorem dX9_savedBy_38 : decode cX9_savedBy 38 = .ok (.if_icmp .ne 7, 3) := by decide +kernel
theorem dX9_savedBy_41 : decode cX9_savedBy 41 = .ok (.iconst 1, 1) := by decide +kernel
theorem dX9_savedBy_42 : decode cX9_savedBy 42 = .ok (.goto 4, 3) := by decide +kernel
theorem dX9_savedBy_45 : decode cX9_savedBy 45 = .ok (.iconst 0, 1) := by decide +kernel
theorem dX9_savedBy_46 : decode cX9_savedBy 46 = .ok (.istore 5, 2) := by decide +kernel
theorem dX9_savedBy_48 : decode cX9_savedBy 48 = .ok (.aload_n 0, 1) := by decide +kernel
theorem dX9_savedBy_49 : decode cX9_savedBy 49 = .ok (.iload 4, 2) := by decide +kernel
theorem dX9_savedBy_51 : decode cX9_savedBy 51 = .ok (.iconst 0, 1) := by decide +kernel
theorem dX9_savedBy_52 : decode cX9_savedBy 52 = .ok (.invokevirtual 189, 3) := by decide +kernel
theorem dX9_savedBy_55 : decode cX9_savedBy 55 = .ok (.iconst 5, 1) := by decide +kernel
theorem dX9_savedBy_56 : decode cX9_savedBy 56 = .ok (.if_icmp .eq 35, 3) := by decide +kernel
theorem dX9_savedBy_59 : decode cX9_savedBy 59 = .ok (.aload_n 0, 1) := by decide +kernel
theorem dX9_savedBy_60 : decode cX9_savedBy 60 = .ok (.iload 4, 2) := by decide +kernel
theorem dX9_savedBy_62 : decode cX9_savedBy 62 = .ok (.iconst 5, 1) := by decide +kernel
theorem dX9_savedBy_63 : decode cX9_savedBy 63 = .ok (.invokevirtual 189, 3) := by decide +kernel
theorem dX9_savedBy_66 : decode cX9_savedBy 66 = .ok (.ifCond .ne 25, 3) := by decide +kernel
theorem dX9_savedBy_69 : decode cX9_savedBy 69 = .ok (.aload_n 0, 1) := by decide +kernel
theorem dX9_savedBy_70 : decode cX9_savedBy 70 = .ok (.iload 4, 2) := by decide +kernel
theorem dX9_savedBy_72 : decode cX9_savedBy 72 = .ok (.iconst 2, 1) := by decide +kernel
theorem dX9_savedBy_73 : decode cX9_savedBy 73 = .ok (.invokevirtual 189, 3) := by decide +kernel
theorem dX9_savedBy_76 : decode cX9_savedBy 76 = .ok (.iload_n 2, 1) := by decide +kernel
theorem dX9_savedBy_77 : decode cX9_savedBy 77 = .ok (.iadd, 1) := by decide +kernel
theorem dX9_savedBy_78 : decode cX9_savedBy 78 = .ok (.aload_n 0, 1) := by decide +kernel
theorem dX9_savedBy_79 : decode cX9_savedBy 79 = .ok (.iload 4, 2) := by decide +kernel
theorem dX9_savedBy_81 : decode cX9_savedBy 81 = .ok (.invokevirtual 192, 3) := by decide +kernel
theorem dX9_savedBy_84 : decode cX9_savedBy 84 = .ok (.if_icmp .gt 7, 3) := by decide +kernel
theorem dX9_savedBy_87 : decode cX9_savedBy 87 = .ok (.iconst 1, 1) := by decide +kernel
theorem dX9_savedBy_88 : decode cX9_savedBy 88 = .ok (.goto 4, 3) := by decide +kernel
theorem dX9_savedBy_91 : decode cX9_savedBy 91 = .ok (.iconst 0, 1) := by decide +kernel
theorem dX9_savedBy_92 : decode cX9_savedBy 92 = .ok (.istore 6, 2) := by decide +kernel
theorem dX9_savedBy_94 : decode cX9_savedBy 94 = .ok (.iload_n 3, 1) := by decide +kernel
theorem dX9_savedBy_95 : decode cX9_savedBy 95 = .ok (.iload 5, 2) := by decide +kernel
theorem dX9_savedBy_97 : decode cX9_savedBy 97 = .ok (.ifCond .eq 12, 3) := by decide +kernel
theorem dX9_savedBy_100 : decode cX9_savedBy 100 = .ok (.iload 6, 2) := by decide +kernel
theorem dX9_savedBy_102 : decode cX9_savedBy 102 = .ok (.ifCond .eq 7, 3) := by decide +kernel
theorem dX9_savedBy_105 : decode cX9_savedBy 105 = .ok (.iconst 1, 1) := by decide +kernel
theorem dX9_savedBy_106 : decode cX9_savedBy 106 = .ok (.goto 4, 3) := by decide +kernel
theorem dX9_savedBy_109 : decode cX9_savedBy 109 = .ok (.iconst 0, 1) := by decide +kernel
theorem dX9_savedBy_110 : decode cX9_savedBy 110 = .ok (.iadd, 1) := by decide +kernel
theorem dX9_savedBy_111 : decode cX9_savedBy 111 = .ok (.istore_n 3, 1) := by decide +kernel
theorem dX9_savedBy_112 : decode cX9_savedBy 112 = .ok (.iinc 4 1, 3) := by decide +kernel
theorem dX9_savedBy_115 : decode cX9_savedBy 115 = .ok (.goto (-110), 3) := by decide +kernel
theorem dX9_savedBy_118 : decode cX9_savedBy 118 = .ok (.iload_n 3, 1) := by decide +kernel
theorem dX9_savedBy_119 : decode cX9_savedBy 119 = .ok (.ireturn, 1) := by decide +kernel
set_option maxRecDepth 20000 in
theorem ggX9_tour_X9_in : GoodIn wsX9_tour wsX9_in := goodIn_r _ [11] (by decide +kernel) (by decide +kernel)
set_option maxRecDepth 20000 in
theorem gX9_tour_X9_in : GoodIn wsX9_tour (va_wsS RX9 57 yX9_in wsX9_in) := goodIn_app (goodIn_of _ (by decide +kernel)) ggX9_tour_X9_in
set_option maxRecDepth 20000 in
theorem ggX9_tour_X9_layTour : GoodIn wsX9_tour wsX9_layTour := goodIn_r _ [15, 16, 7, 17, 18, 19, 10, 20, 4, 21, 22, 23, 24, 25, 26, 27, 28, 41, 42, 43, 44, 45, 46, 47, 48, 49, 50, 51, 52, 53, 54, 55, 56, 57, 58, 59, 60, 61, 62, 63, 64, 65, 66] (by decide +kernel) (by decide +kernel)
set_option maxRecDepth 20000 in
theorem gX9_tour_X9_layTour : GoodIn wsX9_tour (wsV RX9 259 RX9 yX9_layTour wsX9_layTour) := goodIn_app (goodIn_of _ (by decide +kernel)) ggX9_tour_X9_layTour
set_option maxRecDepth 20000 in
theorem ggX9_tour_X9_savedBy : GoodIn wsX9_tour wsX9_savedBy := goodIn_r _ [32, 4, 33, 34, 35, 10, 36, 37, 38, 39, 40, 41, 42, 43, 44, 45, 46, 47, 48, 49, 50, 51, 52, 53, 54, 55, 56, 57, 58, 59, 60, 61, 62, 63, 64, 65, 66] (by decide +kernel) (by decide +kernel)
set_option maxRecDepth 20000 in
theorem gX9_tour_X9_savedBy : GoodIn wsX9_tour (wsV RX9 262 RX9 yX9_savedBy wsX9_savedBy) := goodIn_app (goodIn_of _ (by decide +kernel)) ggX9_tour_X9_savedBy
theorem dX9_tour_0 : decode cX9_tour 0 = .ok (.aload_n 0, 1) := by decide +kernel
theorem dX9_tour_1 : decode cX9_tour 1 = .ok (.iconst 0, 1) := by decide +kernel
theorem dX9_tour_2 : decode cX9_tour 2 = .ok (.putfield 47, 3) := by decide +kernel
theorem dX9_tour_5 : decode cX9_tour 5 = .ok (.aload_n 0, 1) := by decide +kernel
theorem dX9_tour_6 : decode cX9_tour 6 = .ok (.getfield 179, 3) := by decide +kernel
theorem dX9_tour_9 : decode cX9_tour 9 = .ok (.ifCond .ne 6, 3) := by decide +kernel
theorem dX9_tour_12 : decode cX9_tour 12 = .ok (.ldc 210, 2) := by decide +kernel
theorem dX9_tour_14 : decode cX9_tour 14 = .ok (.ireturn, 1) := by decide +kernel
theorem dX9_tour_15 : decode cX9_tour 15 = .ok (.iload_n 1, 1) := by decide +kernel
theorem dX9_tour_16 : decode cX9_tour 16 = .ok (.i2l, 1) := by decide +kernel
theorem dX9_tour_17 : decode cX9_tour 17 = .ok (.lconst 1, 1) := by decide +kernel
theorem dX9_tour_18 : decode cX9_tour 18 = .ok (.iconst 1, 1) := by decide +kernel
theorem dX9_tour_19 : decode cX9_tour 19 = .ok (.aload_n 0, 1) := by decide +kernel
theorem dX9_tour_20 : decode cX9_tour 20 = .ok (.getfield 19, 3) := by decide +kernel
theorem dX9_tour_23 : decode cX9_tour 23 = .ok (.iconst 2, 1) := by decide +kernel
theorem dX9_tour_24 : decode cX9_tour 24 = .ok (.iaload, 1) := by decide +kernel
theorem dX9_tour_25 : decode cX9_tour 25 = .ok (.ishl, 1) := by decide +kernel
theorem dX9_tour_26 : decode cX9_tour 26 = .ok (.iconst 1, 1) := by decide +kernel
theorem dX9_tour_27 : decode cX9_tour 27 = .ok (.isub, 1) := by decide +kernel
theorem dX9_tour_28 : decode cX9_tour 28 = .ok (.i2l, 1) := by decide +kernel
theorem dX9_tour_29 : decode cX9_tour 29 = .ok (.invokestatic 57, 3) := by decide +kernel
theorem dX9_tour_32 : decode cX9_tour 32 = .ok (.ifCond .eq 9, 3) := by decide +kernel
theorem dX9_tour_35 : decode cX9_tour 35 = .ok (.iload_n 2, 1) := by decide +kernel
theorem dX9_tour_36 : decode cX9_tour 36 = .ok (.bipush (-2), 2) := by decide +kernel
theorem dX9_tour_38 : decode cX9_tour 38 = .ok (.if_icmp .ge 6, 3) := by decide +kernel
theorem dX9_tour_41 : decode cX9_tour 41 = .ok (.ldc 67, 2) := by decide +kernel
theorem dX9_tour_43 : decode cX9_tour 43 = .ok (.ireturn, 1) := by decide +kernel
theorem dX9_tour_44 : decode cX9_tour 44 = .ok (.aload_n 0, 1) := by decide +kernel
theorem dX9_tour_45 : decode cX9_tour 45 = .ok (.iload_n 1, 1) := by decide +kernel
theorem dX9_tour_46 : decode cX9_tour 46 = .ok (.invokevirtual 259, 3) := by decide +kernel
theorem dX9_tour_49 : decode cX9_tour 49 = .ok (.istore_n 3, 1) := by decide +kernel
theorem dX9_tour_50 : decode cX9_tour 50 = .ok (.iload_n 3, 1) := by decide +kernel
theorem dX9_tour_51 : decode cX9_tour 51 = .ok (.sipush 10000, 3) := by decide +kernel
theorem dX9_tour_54 : decode cX9_tour 54 = .ok (.if_icmp .ne 6, 3) := by decide +kernel
theorem dX9_tour_57 : decode cX9_tour 57 = .ok (.ldc 83, 2) := by decide +kernel
theorem dX9_tour_59 : decode cX9_tour 59 = .ok (.ireturn, 1) := by decide +kernel
theorem dX9_tour_60 : decode cX9_tour 60 = .ok (.iconst 0, 1) := by decide +kernel
theorem dX9_tour_61 : decode cX9_tour 61 = .ok (.istore 4, 2) := by decide +kernel
theorem dX9_tour_63 : decode cX9_tour 63 = .ok (.iconst 0, 1) := by decide +kernel
theorem dX9_tour_64 : decode cX9_tour 64 = .ok (.istore 5, 2) := by decide +kernel
theorem dX9_tour_66 : decode cX9_tour 66 = .ok (.iload 5, 2) := by decide +kernel
theorem dX9_tour_68 : decode cX9_tour 68 = .ok (.bipush 6, 2) := by decide +kernel
theorem dX9_tour_70 : decode cX9_tour 70 = .ok (.if_icmp .ge 20, 3) := by decide +kernel
theorem dX9_tour_73 : decode cX9_tour 73 = .ok (.iload 4, 2) := by decide +kernel
theorem dX9_tour_75 : decode cX9_tour 75 = .ok (.iload_n 1, 1) := by decide +kernel
theorem dX9_tour_76 : decode cX9_tour 76 = .ok (.iload 5, 2) := by decide +kernel
theorem dX9_tour_78 : decode cX9_tour 78 = .ok (.ishr, 1) := by decide +kernel
theorem dX9_tour_79 : decode cX9_tour 79 = .ok (.iconst 1, 1) := by decide +kernel
theorem dX9_tour_80 : decode cX9_tour 80 = .ok (.iand, 1) := by decide +kernel
theorem dX9_tour_81 : decode cX9_tour 81 = .ok (.iadd, 1) := by decide +kernel
theorem dX9_tour_82 : decode cX9_tour 82 = .ok (.istore 4, 2) := by decide +kernel
theorem dX9_tour_84 : decode cX9_tour 84 = .ok (.iinc 5 1, 3) := by decide +kernel
theorem dX9_tour_87 : decode cX9_tour 87 = .ok (.goto (-21), 3) := by decide +kernel
theorem dX9_tour_90 : decode cX9_tour 90 = .ok (.iload_n 2, 1) := by decide +kernel
theorem dX9_tour_91 : decode cX9_tour 91 = .ok (.bipush (-2), 2) := by decide +kernel
theorem dX9_tour_93 : decode cX9_tour 93 = .ok (.if_icmp .ne 12, 3) := by decide +kernel
theorem dX9_tour_96 : decode cX9_tour 96 = .ok (.aload_n 0, 1) := by decide +kernel
theorem dX9_tour_97 : decode cX9_tour 97 = .ok (.iload_n 1, 1) := by decide +kernel
theorem dX9_tour_98 : decode cX9_tour 98 = .ok (.iload_n 3, 1) := by decide +kernel
theorem dX9_tour_99 : decode cX9_tour 99 = .ok (.invokevirtual 262, 3) := by decide +kernel
theorem dX9_tour_102 : decode cX9_tour 102 = .ok (.goto 29, 3) := by decide +kernel
theorem dX9_tour_105 : decode cX9_tour 105 = .ok (.iload_n 2, 1) := by decide +kernel
theorem dX9_tour_106 : decode cX9_tour 106 = .ok (.iconst (-1), 1) := by decide +kernel
theorem dX9_tour_107 : decode cX9_tour 107 = .ok (.if_icmp .ne 7, 3) := by decide +kernel
theorem dX9_tour_110 : decode cX9_tour 110 = .ok (.iload_n 3, 1) := by decide +kernel
theorem dX9_tour_111 : decode cX9_tour 111 = .ok (.goto 20, 3) := by decide +kernel
theorem dX9_tour_114 : decode cX9_tour 114 = .ok (.iload_n 2, 1) := by decide +kernel
theorem dX9_tour_115 : decode cX9_tour 115 = .ok (.iload 4, 2) := by decide +kernel
theorem dX9_tour_117 : decode cX9_tour 117 = .ok (.if_icmp .ge 12, 3) := by decide +kernel
theorem dX9_tour_120 : decode cX9_tour 120 = .ok (.aload_n 0, 1) := by decide +kernel
theorem dX9_tour_121 : decode cX9_tour 121 = .ok (.getfield 34, 3) := by decide +kernel
theorem dX9_tour_124 : decode cX9_tour 124 = .ok (.iload_n 2, 1) := by decide +kernel
theorem dX9_tour_125 : decode cX9_tour 125 = .ok (.iaload, 1) := by decide +kernel
theorem dX9_tour_126 : decode cX9_tour 126 = .ok (.goto 5, 3) := by decide +kernel
theorem dX9_tour_129 : decode cX9_tour 129 = .ok (.ldc 83, 2) := by decide +kernel
theorem dX9_tour_131 : decode cX9_tour 131 = .ok (.ireturn, 1) := by decide +kernel
set_option maxRecDepth 20000 in
theorem ggX9_lateWith_X9_townOf : GoodIn wsX9_lateWith wsX9_townOf := goodIn_r _ [7, 1, 8, 9, 10, 6, 11, 24, 25, 26, 27, 28, 29, 30, 31, 32, 33, 34, 35, 36, 37, 38, 39, 40, 41, 42, 43, 44, 45, 46, 47, 48, 49] (by decide +kernel) (by decide +kernel)
set_option maxRecDepth 20000 in
theorem gX9_lateWith_X9_townOf : GoodIn wsX9_lateWith (wsV RX9 195 RX9 yX9_townOf wsX9_townOf) := goodIn_app (goodIn_of _ (by decide +kernel)) ggX9_lateWith_X9_townOf
set_option maxRecDepth 20000 in
theorem ggX9_lateWith_X9_farOf : GoodIn wsX9_lateWith wsX9_farOf := goodIn_r _ [15, 1, 24, 25, 26, 27, 28, 29, 30, 31, 32, 33, 34, 35, 36, 37, 38, 39, 40, 41, 42, 43, 44, 45, 46, 47, 48, 49] (by decide +kernel) (by decide +kernel)
set_option maxRecDepth 20000 in
theorem gX9_lateWith_X9_farOf : GoodIn wsX9_lateWith (wsV RX9 198 RX9 yX9_farOf wsX9_farOf) := goodIn_app (goodIn_of _ (by decide +kernel)) ggX9_lateWith_X9_farOf
set_option maxRecDepth 20000 in
theorem ggX9_lateWith_X9_of : GoodIn wsX9_lateWith wsX9_of := goodIn_r _ [11, 1, 24, 25, 26, 27, 28, 29, 30, 31, 32, 33, 34, 35, 36, 37, 38, 39, 40, 41, 42, 43, 44, 45, 46, 47, 48, 49] (by decide +kernel) (by decide +kernel)
set_option maxRecDepth 20000 in
theorem gX9_lateWith_X9_of : GoodIn wsX9_lateWith (wsV RX9 189 RX9 yX9_of wsX9_of) := goodIn_app (goodIn_of _ (by decide +kernel)) ggX9_lateWith_X9_of
set_option maxRecDepth 20000 in
theorem ggX9_lateWith_X9_slackBy : GoodIn wsX9_lateWith wsX9_slackBy := goodIn_r _ [19, 2, 8, 9, 10, 6, 11, 1, 20, 21, 22, 23, 24, 25, 26, 27, 28, 29, 30, 31, 32, 33, 34, 35, 36, 37, 38, 39, 40, 41, 42, 43, 44, 45, 46, 47, 48, 49] (by decide +kernel) (by decide +kernel)
set_option maxRecDepth 20000 in
theorem gX9_lateWith_X9_slackBy : GoodIn wsX9_lateWith (wsV RX9 201 RX9 yX9_slackBy wsX9_slackBy) := goodIn_app (goodIn_of _ (by decide +kernel)) ggX9_lateWith_X9_slackBy
theorem dX9_lateWith_0 : decode cX9_lateWith 0 = .ok (.iconst 0, 1) := by decide +kernel
theorem dX9_lateWith_1 : decode cX9_lateWith 1 = .ok (.istore_n 2, 1) := by decide +kernel
theorem dX9_lateWith_2 : decode cX9_lateWith 2 = .ok (.iconst 0, 1) := by decide +kernel
theorem dX9_lateWith_3 : decode cX9_lateWith 3 = .ok (.istore_n 3, 1) := by decide +kernel
theorem dX9_lateWith_4 : decode cX9_lateWith 4 = .ok (.iload_n 3, 1) := by decide +kernel
theorem dX9_lateWith_5 : decode cX9_lateWith 5 = .ok (.aload_n 0, 1) := by decide +kernel
theorem dX9_lateWith_6 : decode cX9_lateWith 6 = .ok (.getfield 19, 3) := by decide +kernel
theorem dX9_lateWith_9 : decode cX9_lateWith 9 = .ok (.iconst 3, 1) := by decide +kernel
theorem dX9_lateWith_10 : decode cX9_lateWith 10 = .ok (.iaload, 1) := by decide +kernel
theorem dX9_lateWith_11 : decode cX9_lateWith 11 = .ok (.if_icmp .ge 83, 3) := by decide +kernel
theorem dX9_lateWith_14 : decode cX9_lateWith 14 = .ok (.aload_n 0, 1) := by decide +kernel
theorem dX9_lateWith_15 : decode cX9_lateWith 15 = .ok (.aload_n 0, 1) := by decide +kernel
theorem dX9_lateWith_16 : decode cX9_lateWith 16 = .ok (.iload_n 3, 1) := by decide +kernel
theorem dX9_lateWith_17 : decode cX9_lateWith 17 = .ok (.invokevirtual 195, 3) := by decide +kernel
theorem dX9_lateWith_20 : decode cX9_lateWith 20 = .ok (.iconst 0, 1) := by decide +kernel
theorem dX9_lateWith_21 : decode cX9_lateWith 21 = .ok (.invokevirtual 198, 3) := by decide +kernel
theorem dX9_lateWith_24 : decode cX9_lateWith 24 = .ok (.istore 4, 2) := by decide +kernel
theorem dX9_lateWith_26 : decode cX9_lateWith 26 = .ok (.aload_n 0, 1) := by decide +kernel
theorem dX9_lateWith_27 : decode cX9_lateWith 27 = .ok (.aload_n 0, 1) := by decide +kernel
theorem dX9_lateWith_28 : decode cX9_lateWith 28 = .ok (.iload_n 3, 1) := by decide +kernel
theorem dX9_lateWith_29 : decode cX9_lateWith 29 = .ok (.invokevirtual 195, 3) := by decide +kernel
theorem dX9_lateWith_32 : decode cX9_lateWith 32 = .ok (.iload_n 1, 1) := by decide +kernel
theorem dX9_lateWith_33 : decode cX9_lateWith 33 = .ok (.invokevirtual 198, 3) := by decide +kernel
theorem dX9_lateWith_36 : decode cX9_lateWith 36 = .ok (.istore 5, 2) := by decide +kernel
theorem dX9_lateWith_38 : decode cX9_lateWith 38 = .ok (.aload_n 0, 1) := by decide +kernel
theorem dX9_lateWith_39 : decode cX9_lateWith 39 = .ok (.iload_n 3, 1) := by decide +kernel
theorem dX9_lateWith_40 : decode cX9_lateWith 40 = .ok (.aload_n 0, 1) := by decide +kernel
theorem dX9_lateWith_41 : decode cX9_lateWith 41 = .ok (.iload_n 3, 1) := by decide +kernel
theorem dX9_lateWith_42 : decode cX9_lateWith 42 = .ok (.iconst 3, 1) := by decide +kernel
theorem dX9_lateWith_43 : decode cX9_lateWith 43 = .ok (.invokevirtual 189, 3) := by decide +kernel
theorem dX9_lateWith_46 : decode cX9_lateWith 46 = .ok (.ifCond .ne 15, 3) := by decide +kernel
theorem dX9_lateWith_49 : decode cX9_lateWith 49 = .ok (.iload 5, 2) := by decide +kernel
theorem dX9_lateWith_51 : decode cX9_lateWith 51 = .ok (.iload 4, 2) := by decide +kernel
theorem dX9_lateWith_53 : decode cX9_lateWith 53 = .ok (.if_icmp .ge 8, 3) := by decide +kernel
theorem dX9_lateWith_56 : decode cX9_lateWith 56 = .ok (.iload 5, 2) := by decide +kernel
theorem dX9_lateWith_58 : decode cX9_lateWith 58 = .ok (.goto 5, 3) := by decide +kernel
theorem dX9_lateWith_61 : decode cX9_lateWith 61 = .ok (.iload 4, 2) := by decide +kernel
theorem dX9_lateWith_63 : decode cX9_lateWith 63 = .ok (.invokevirtual 201, 3) := by decide +kernel
theorem dX9_lateWith_66 : decode cX9_lateWith 66 = .ok (.istore 6, 2) := by decide +kernel
theorem dX9_lateWith_68 : decode cX9_lateWith 68 = .ok (.iload_n 2, 1) := by decide +kernel
theorem dX9_lateWith_69 : decode cX9_lateWith 69 = .ok (.iload 6, 2) := by decide +kernel
theorem dX9_lateWith_71 : decode cX9_lateWith 71 = .ok (.ldc 83, 2) := by decide +kernel
theorem dX9_lateWith_73 : decode cX9_lateWith 73 = .ok (.if_icmp .eq 12, 3) := by decide +kernel
theorem dX9_lateWith_76 : decode cX9_lateWith 76 = .ok (.iload 6, 2) := by decide +kernel
theorem dX9_lateWith_78 : decode cX9_lateWith 78 = .ok (.ifCond .ge 7, 3) := by decide +kernel
theorem dX9_lateWith_81 : decode cX9_lateWith 81 = .ok (.iconst 1, 1) := by decide +kernel
theorem dX9_lateWith_82 : decode cX9_lateWith 82 = .ok (.goto 4, 3) := by decide +kernel
theorem dX9_lateWith_85 : decode cX9_lateWith 85 = .ok (.iconst 0, 1) := by decide +kernel
theorem dX9_lateWith_86 : decode cX9_lateWith 86 = .ok (.iadd, 1) := by decide +kernel
theorem dX9_lateWith_87 : decode cX9_lateWith 87 = .ok (.istore_n 2, 1) := by decide +kernel
theorem dX9_lateWith_88 : decode cX9_lateWith 88 = .ok (.iinc 3 1, 3) := by decide +kernel
theorem dX9_lateWith_91 : decode cX9_lateWith 91 = .ok (.goto (-87), 3) := by decide +kernel
theorem dX9_lateWith_94 : decode cX9_lateWith 94 = .ok (.iload_n 2, 1) := by decide +kernel
theorem dX9_lateWith_95 : decode cX9_lateWith 95 = .ok (.ireturn, 1) := by decide +kernel
set_option maxRecDepth 20000 in
theorem ggX9_mint_X9_in : GoodIn wsX9_mint wsX9_in := goodIn_r _ [8] (by decide +kernel) (by decide +kernel)
set_option maxRecDepth 20000 in
theorem gX9_mint_X9_in : GoodIn wsX9_mint (va_wsS RX9 57 yX9_in wsX9_in) := goodIn_app (goodIn_of _ (by decide +kernel)) ggX9_mint_X9_in
set_option maxRecDepth 20000 in
theorem ggX9_mint_X9_lateWith : GoodIn wsX9_mint wsX9_lateWith := goodIn_r _ [12, 13, 14, 15, 16, 17, 7, 18, 19, 20, 21, 22, 23, 24, 25, 26, 27, 28, 29, 30, 31, 32, 33, 34, 35, 36, 37, 38, 39, 40, 41, 42, 43, 44, 45, 46, 47, 48, 49, 50, 51, 52, 53, 54, 55, 56, 57, 58, 59, 60] (by decide +kernel) (by decide +kernel)
set_option maxRecDepth 20000 in
theorem gX9_mint_X9_lateWith : GoodIn wsX9_mint (wsV RX9 265 RX9 yX9_lateWith wsX9_lateWith) := goodIn_app (goodIn_of _ (by decide +kernel)) ggX9_mint_X9_lateWith
theorem dX9_mint_0 : decode cX9_mint 0 = .ok (.aload_n 0, 1) := by decide +kernel
theorem dX9_mint_1 : decode cX9_mint 1 = .ok (.iconst 0, 1) := by decide +kernel
theorem dX9_mint_2 : decode cX9_mint 2 = .ok (.putfield 47, 3) := by decide +kernel
theorem dX9_mint_5 : decode cX9_mint 5 = .ok (.aload_n 0, 1) := by decide +kernel
theorem dX9_mint_6 : decode cX9_mint 6 = .ok (.getfield 179, 3) := by decide +kernel
theorem dX9_mint_9 : decode cX9_mint 9 = .ok (.ifCond .ne 6, 3) := by decide +kernel
theorem dX9_mint_12 : decode cX9_mint 12 = .ok (.ldc 210, 2) := by decide +kernel
theorem dX9_mint_14 : decode cX9_mint 14 = .ok (.ireturn, 1) := by decide +kernel
theorem dX9_mint_15 : decode cX9_mint 15 = .ok (.iload_n 1, 1) := by decide +kernel
theorem dX9_mint_16 : decode cX9_mint 16 = .ok (.i2l, 1) := by decide +kernel
theorem dX9_mint_17 : decode cX9_mint 17 = .ok (.lconst 0, 1) := by decide +kernel
theorem dX9_mint_18 : decode cX9_mint 18 = .ok (.lconst 1, 1) := by decide +kernel
theorem dX9_mint_19 : decode cX9_mint 19 = .ok (.invokestatic 57, 3) := by decide +kernel
theorem dX9_mint_22 : decode cX9_mint 22 = .ok (.ifCond .ne 6, 3) := by decide +kernel
theorem dX9_mint_25 : decode cX9_mint 25 = .ok (.ldc 67, 2) := by decide +kernel
theorem dX9_mint_27 : decode cX9_mint 27 = .ok (.ireturn, 1) := by decide +kernel
theorem dX9_mint_28 : decode cX9_mint 28 = .ok (.iconst 1, 1) := by decide +kernel
theorem dX9_mint_29 : decode cX9_mint 29 = .ok (.istore_n 2, 1) := by decide +kernel
theorem dX9_mint_30 : decode cX9_mint 30 = .ok (.iconst 2, 1) := by decide +kernel
theorem dX9_mint_31 : decode cX9_mint 31 = .ok (.istore_n 3, 1) := by decide +kernel
theorem dX9_mint_32 : decode cX9_mint 32 = .ok (.iload_n 3, 1) := by decide +kernel
theorem dX9_mint_33 : decode cX9_mint 33 = .ok (.bipush 8, 2) := by decide +kernel
theorem dX9_mint_35 : decode cX9_mint 35 = .ok (.if_icmp .ge 28, 3) := by decide +kernel
theorem dX9_mint_38 : decode cX9_mint 38 = .ok (.aload_n 0, 1) := by decide +kernel
theorem dX9_mint_39 : decode cX9_mint 39 = .ok (.iload_n 3, 1) := by decide +kernel
theorem dX9_mint_40 : decode cX9_mint 40 = .ok (.invokevirtual 265, 3) := by decide +kernel
theorem dX9_mint_43 : decode cX9_mint 43 = .ok (.aload_n 0, 1) := by decide +kernel
theorem dX9_mint_44 : decode cX9_mint 44 = .ok (.iload_n 2, 1) := by decide +kernel
theorem dX9_mint_45 : decode cX9_mint 45 = .ok (.invokevirtual 265, 3) := by decide +kernel
theorem dX9_mint_48 : decode cX9_mint 48 = .ok (.if_icmp .ge 7, 3) := by decide +kernel
theorem dX9_mint_51 : decode cX9_mint 51 = .ok (.iload_n 3, 1) := by decide +kernel
theorem dX9_mint_52 : decode cX9_mint 52 = .ok (.goto 4, 3) := by decide +kernel
theorem dX9_mint_55 : decode cX9_mint 55 = .ok (.iload_n 2, 1) := by decide +kernel
theorem dX9_mint_56 : decode cX9_mint 56 = .ok (.istore_n 2, 1) := by decide +kernel
theorem dX9_mint_57 : decode cX9_mint 57 = .ok (.iinc 3 1, 3) := by decide +kernel
theorem dX9_mint_60 : decode cX9_mint 60 = .ok (.goto (-28), 3) := by decide +kernel
theorem dX9_mint_63 : decode cX9_mint 63 = .ok (.iload_n 1, 1) := by decide +kernel
theorem dX9_mint_64 : decode cX9_mint 64 = .ok (.ifCond .ne 7, 3) := by decide +kernel
theorem dX9_mint_67 : decode cX9_mint 67 = .ok (.iload_n 2, 1) := by decide +kernel
theorem dX9_mint_68 : decode cX9_mint 68 = .ok (.goto 8, 3) := by decide +kernel
theorem dX9_mint_71 : decode cX9_mint 71 = .ok (.aload_n 0, 1) := by decide +kernel
theorem dX9_mint_72 : decode cX9_mint 72 = .ok (.iload_n 2, 1) := by decide +kernel
theorem dX9_mint_73 : decode cX9_mint 73 = .ok (.invokevirtual 265, 3) := by decide +kernel
theorem dX9_mint_76 : decode cX9_mint 76 = .ok (.ireturn, 1) := by decide +kernel
set_option maxRecDepth 20000 in
theorem ggX9_sounds_X9_in : GoodIn wsX9_sounds wsX9_in := goodIn_r _ [11] (by decide +kernel) (by decide +kernel)
set_option maxRecDepth 20000 in
theorem gX9_sounds_X9_in : GoodIn wsX9_sounds (va_wsS RX9 57 yX9_in wsX9_in) := goodIn_app (goodIn_of _ (by decide +kernel)) ggX9_sounds_X9_in
set_option maxRecDepth 20000 in
theorem ggX9_sounds_X9_of : GoodIn wsX9_sounds wsX9_of := goodIn_r _ [15, 7, 24, 25, 26, 27, 28, 29, 30, 31, 32, 33, 34, 35, 36, 37, 38, 39, 40, 41, 42, 43, 44, 45, 46, 47, 48, 49] (by decide +kernel) (by decide +kernel)
set_option maxRecDepth 20000 in
theorem gX9_sounds_X9_of : GoodIn wsX9_sounds (wsV RX9 189 RX9 yX9_of wsX9_of) := goodIn_app (goodIn_of _ (by decide +kernel)) ggX9_sounds_X9_of
set_option maxRecDepth 20000 in
theorem ggX9_sounds_X9_townOf : GoodIn wsX9_sounds wsX9_townOf := goodIn_r _ [19, 7, 12, 13, 14, 10, 15, 24, 25, 26, 27, 28, 29, 30, 31, 32, 33, 34, 35, 36, 37, 38, 39, 40, 41, 42, 43, 44, 45, 46, 47, 48, 49] (by decide +kernel) (by decide +kernel)
set_option maxRecDepth 20000 in
theorem gX9_sounds_X9_townOf : GoodIn wsX9_sounds (wsV RX9 195 RX9 yX9_townOf wsX9_townOf) := goodIn_app (goodIn_of _ (by decide +kernel)) ggX9_sounds_X9_townOf
set_option maxRecDepth 20000 in
theorem ggX9_sounds_X9_spanOf : GoodIn wsX9_sounds wsX9_spanOf := goodIn_r _ [23, 7, 12, 13, 14, 10, 15, 24, 25, 26, 27, 28, 29, 30, 31, 32, 33, 34, 35, 36, 37, 38, 39, 40, 41, 42, 43, 44, 45, 46, 47, 48, 49] (by decide +kernel) (by decide +kernel)
set_option maxRecDepth 20000 in
theorem gX9_sounds_X9_spanOf : GoodIn wsX9_sounds (wsV RX9 192 RX9 yX9_spanOf wsX9_spanOf) := goodIn_app (goodIn_of _ (by decide +kernel)) ggX9_sounds_X9_spanOf
theorem dX9_sounds_0 : decode cX9_sounds 0 = .ok (.aload_n 0, 1) := by decide +kernel
theorem dX9_sounds_1 : decode cX9_sounds 1 = .ok (.iconst 0, 1) := by decide +kernel
theorem dX9_sounds_2 : decode cX9_sounds 2 = .ok (.putfield 47, 3) := by decide +kernel
theorem dX9_sounds_5 : decode cX9_sounds 5 = .ok (.aload_n 0, 1) := by decide +kernel
theorem dX9_sounds_6 : decode cX9_sounds 6 = .ok (.getfield 179, 3) := by decide +kernel
theorem dX9_sounds_9 : decode cX9_sounds 9 = .ok (.ifCond .ne 6, 3) := by decide +kernel
theorem dX9_sounds_12 : decode cX9_sounds 12 = .ok (.ldc 210, 2) := by decide +kernel
theorem dX9_sounds_14 : decode cX9_sounds 14 = .ok (.ireturn, 1) := by decide +kernel
theorem dX9_sounds_15 : decode cX9_sounds 15 = .ok (.iload_n 1, 1) := by decide +kernel
theorem dX9_sounds_16 : decode cX9_sounds 16 = .ok (.i2l, 1) := by decide +kernel
theorem dX9_sounds_17 : decode cX9_sounds 17 = .ok (.lconst 0, 1) := by decide +kernel
theorem dX9_sounds_18 : decode cX9_sounds 18 = .ok (.ldc2_w 55, 3) := by decide +kernel
theorem dX9_sounds_21 : decode cX9_sounds 21 = .ok (.invokestatic 57, 3) := by decide +kernel
theorem dX9_sounds_24 : decode cX9_sounds 24 = .ok (.ifCond .eq 15, 3) := by decide +kernel
theorem dX9_sounds_27 : decode cX9_sounds 27 = .ok (.iload_n 2, 1) := by decide +kernel
theorem dX9_sounds_28 : decode cX9_sounds 28 = .ok (.i2l, 1) := by decide +kernel
theorem dX9_sounds_29 : decode cX9_sounds 29 = .ok (.lconst 0, 1) := by decide +kernel
theorem dX9_sounds_30 : decode cX9_sounds 30 = .ok (.ldc2_w 248, 3) := by decide +kernel
theorem dX9_sounds_33 : decode cX9_sounds 33 = .ok (.invokestatic 57, 3) := by decide +kernel
theorem dX9_sounds_36 : decode cX9_sounds 36 = .ok (.ifCond .ne 6, 3) := by decide +kernel
theorem dX9_sounds_39 : decode cX9_sounds 39 = .ok (.ldc 67, 2) := by decide +kernel
theorem dX9_sounds_41 : decode cX9_sounds 41 = .ok (.ireturn, 1) := by decide +kernel
theorem dX9_sounds_42 : decode cX9_sounds 42 = .ok (.iconst 0, 1) := by decide +kernel
theorem dX9_sounds_43 : decode cX9_sounds 43 = .ok (.istore_n 3, 1) := by decide +kernel
theorem dX9_sounds_44 : decode cX9_sounds 44 = .ok (.iconst 0, 1) := by decide +kernel
theorem dX9_sounds_45 : decode cX9_sounds 45 = .ok (.istore 4, 2) := by decide +kernel
theorem dX9_sounds_47 : decode cX9_sounds 47 = .ok (.iload 4, 2) := by decide +kernel
theorem dX9_sounds_49 : decode cX9_sounds 49 = .ok (.aload_n 0, 1) := by decide +kernel
theorem dX9_sounds_50 : decode cX9_sounds 50 = .ok (.getfield 19, 3) := by decide +kernel
theorem dX9_sounds_53 : decode cX9_sounds 53 = .ok (.iconst 3, 1) := by decide +kernel
theorem dX9_sounds_54 : decode cX9_sounds 54 = .ok (.iaload, 1) := by decide +kernel
theorem dX9_sounds_55 : decode cX9_sounds 55 = .ok (.if_icmp .ge 104, 3) := by decide +kernel
theorem dX9_sounds_58 : decode cX9_sounds 58 = .ok (.aload_n 0, 1) := by decide +kernel
theorem dX9_sounds_59 : decode cX9_sounds 59 = .ok (.iload 4, 2) := by decide +kernel
theorem dX9_sounds_61 : decode cX9_sounds 61 = .ok (.iconst 3, 1) := by decide +kernel
theorem dX9_sounds_62 : decode cX9_sounds 62 = .ok (.invokevirtual 189, 3) := by decide +kernel
theorem dX9_sounds_65 : decode cX9_sounds 65 = .ok (.ifCond .ne 27, 3) := by decide +kernel
theorem dX9_sounds_68 : decode cX9_sounds 68 = .ok (.aload_n 0, 1) := by decide +kernel
theorem dX9_sounds_69 : decode cX9_sounds 69 = .ok (.iload 4, 2) := by decide +kernel
theorem dX9_sounds_71 : decode cX9_sounds 71 = .ok (.invokevirtual 195, 3) := by decide +kernel
theorem dX9_sounds_74 : decode cX9_sounds 74 = .ok (.iload_n 1, 1) := by decide +kernel
theorem dX9_sounds_75 : decode cX9_sounds 75 = .ok (.if_icmp .ne 17, 3) := by decide +kernel
theorem dX9_sounds_78 : decode cX9_sounds 78 = .ok (.aload_n 0, 1) := by decide +kernel
theorem dX9_sounds_79 : decode cX9_sounds 79 = .ok (.iload 4, 2) := by decide +kernel
theorem dX9_sounds_81 : decode cX9_sounds 81 = .ok (.iconst 5, 1) := by decide +kernel
theorem dX9_sounds_82 : decode cX9_sounds 82 = .ok (.invokevirtual 189, 3) := by decide +kernel
theorem dX9_sounds_85 : decode cX9_sounds 85 = .ok (.ifCond .ne 7, 3) := by decide +kernel
theorem dX9_sounds_88 : decode cX9_sounds 88 = .ok (.iconst 1, 1) := by decide +kernel
theorem dX9_sounds_89 : decode cX9_sounds 89 = .ok (.goto 4, 3) := by decide +kernel
theorem dX9_sounds_92 : decode cX9_sounds 92 = .ok (.iconst 0, 1) := by decide +kernel
theorem dX9_sounds_93 : decode cX9_sounds 93 = .ok (.istore 5, 2) := by decide +kernel
theorem dX9_sounds_95 : decode cX9_sounds 95 = .ok (.iload_n 2, 1) := by decide +kernel
theorem dX9_sounds_96 : decode cX9_sounds 96 = .ok (.ifCond .eq 32, 3) := by decide +kernel
theorem dX9_sounds_99 : decode cX9_sounds 99 = .ok (.aload_n 0, 1) := by decide +kernel
theorem dX9_sounds_100 : decode cX9_sounds 100 = .ok (.iload 4, 2) := by decide +kernel
theorem dX9_sounds_102 : decode cX9_sounds 102 = .ok (.iconst 0, 1) := by decide +kernel
theorem dX9_sounds_103 : decode cX9_sounds 103 = .ok (.invokevirtual 189, 3) := by decide +kernel
theorem dX9_sounds_106 : decode cX9_sounds 106 = .ok (.iconst 5, 1) := by decide +kernel
theorem dX9_sounds_107 : decode cX9_sounds 107 = .ok (.if_icmp .eq 21, 3) := by decide +kernel
theorem dX9_sounds_110 : decode cX9_sounds 110 = .ok (.aload_n 0, 1) := by decide +kernel
theorem dX9_sounds_111 : decode cX9_sounds 111 = .ok (.iload 4, 2) := by decide +kernel
theorem dX9_sounds_113 : decode cX9_sounds 113 = .ok (.iconst 2, 1) := by decide +kernel
theorem dX9_sounds_114 : decode cX9_sounds 114 = .ok (.invokevirtual 189, 3) := by decide +kernel
theorem dX9_sounds_117 : decode cX9_sounds 117 = .ok (.iload_n 2, 1) := by decide +kernel
theorem dX9_sounds_118 : decode cX9_sounds 118 = .ok (.iadd, 1) := by decide +kernel
theorem dX9_sounds_119 : decode cX9_sounds 119 = .ok (.aload_n 0, 1) := by decide +kernel
theorem dX9_sounds_120 : decode cX9_sounds 120 = .ok (.iload 4, 2) := by decide +kernel
theorem dX9_sounds_122 : decode cX9_sounds 122 = .ok (.invokevirtual 192, 3) := by decide +kernel
theorem dX9_sounds_125 : decode cX9_sounds 125 = .ok (.if_icmp .gt 7, 3) := by decide +kernel
theorem dX9_sounds_128 : decode cX9_sounds 128 = .ok (.iconst 1, 1) := by decide +kernel
theorem dX9_sounds_129 : decode cX9_sounds 129 = .ok (.goto 4, 3) := by decide +kernel
theorem dX9_sounds_132 : decode cX9_sounds 132 = .ok (.iconst 0, 1) := by decide +kernel
theorem dX9_sounds_133 : decode cX9_sounds 133 = .ok (.istore 6, 2) := by decide +kernel
theorem dX9_sounds_135 : decode cX9_sounds 135 = .ok (.iload_n 3, 1) := by decide +kernel
theorem dX9_sounds_136 : decode cX9_sounds 136 = .ok (.iload 5, 2) := by decide +kernel
theorem dX9_sounds_138 : decode cX9_sounds 138 = .ok (.ifCond .eq 12, 3) := by decide +kernel
theorem dX9_sounds_141 : decode cX9_sounds 141 = .ok (.iload 6, 2) := by decide +kernel
theorem dX9_sounds_143 : decode cX9_sounds 143 = .ok (.ifCond .eq 7, 3) := by decide +kernel
theorem dX9_sounds_146 : decode cX9_sounds 146 = .ok (.iconst 1, 1) := by decide +kernel
theorem dX9_sounds_147 : decode cX9_sounds 147 = .ok (.goto 4, 3) := by decide +kernel
theorem dX9_sounds_150 : decode cX9_sounds 150 = .ok (.iconst 0, 1) := by decide +kernel
theorem dX9_sounds_151 : decode cX9_sounds 151 = .ok (.iadd, 1) := by decide +kernel
theorem dX9_sounds_152 : decode cX9_sounds 152 = .ok (.istore_n 3, 1) := by decide +kernel
theorem dX9_sounds_153 : decode cX9_sounds 153 = .ok (.iinc 4 1, 3) := by decide +kernel
theorem dX9_sounds_156 : decode cX9_sounds 156 = .ok (.goto (-109), 3) := by decide +kernel
theorem dX9_sounds_159 : decode cX9_sounds 159 = .ok (.iload_n 3, 1) := by decide +kernel
theorem dX9_sounds_160 : decode cX9_sounds 160 = .ok (.ireturn, 1) := by decide +kernel
end
section
theorem dX9_timesOf_0 : decode cX9_timesOf 0 = .ok (.iconst 1, 1) := by decide +kernel
theorem dX9_timesOf_1 : decode cX9_timesOf 1 = .ok (.istore_n 2, 1) := by decide +kernel
theorem dX9_timesOf_2 : decode cX9_timesOf 2 = .ok (.iconst 0, 1) := by decide +kernel
theorem dX9_timesOf_3 : decode cX9_timesOf 3 = .ok (.istore_n 3, 1) := by decide +kernel
theorem dX9_timesOf_4 : decode cX9_timesOf 4 = .ok (.iload_n 3, 1) := by decide +kernel
theorem dX9_timesOf_5 : decode cX9_timesOf 5 = .ok (.iload_n 1, 1) := by decide +kernel
theorem dX9_timesOf_6 : decode cX9_timesOf 6 = .ok (.if_icmp .ge 13, 3) := by decide +kernel
theorem dX9_timesOf_9 : decode cX9_timesOf 9 = .ok (.iload_n 2, 1) := by decide +kernel
theorem dX9_timesOf_10 : decode cX9_timesOf 10 = .ok (.iload_n 0, 1) := by decide +kernel
theorem dX9_timesOf_11 : decode cX9_timesOf 11 = .ok (.imul, 1) := by decide +kernel
theorem dX9_timesOf_12 : decode cX9_timesOf 12 = .ok (.istore_n 2, 1) := by decide +kernel
theorem dX9_timesOf_13 : decode cX9_timesOf 13 = .ok (.iinc 3 1, 3) := by decide +kernel
theorem dX9_timesOf_16 : decode cX9_timesOf 16 = .ok (.goto (-12), 3) := by decide +kernel
theorem dX9_timesOf_19 : decode cX9_timesOf 19 = .ok (.iload_n 2, 1) := by decide +kernel
theorem dX9_timesOf_20 : decode cX9_timesOf 20 = .ok (.ireturn, 1) := by decide +kernel
set_option maxRecDepth 20000 in
theorem ggX9_ear_X9_in : GoodIn wsX9_ear wsX9_in := goodIn_r _ [8] (by decide +kernel) (by decide +kernel)
set_option maxRecDepth 20000 in
theorem gX9_ear_X9_in : GoodIn wsX9_ear (va_wsS RX9 57 yX9_in wsX9_in) := goodIn_app (goodIn_of _ (by decide +kernel)) ggX9_ear_X9_in
set_option maxRecDepth 20000 in
theorem ggX9_ear_X9_timesOf : GoodIn wsX9_ear wsX9_timesOf := goodIn_r _ [11] (by decide +kernel) (by decide +kernel)
set_option maxRecDepth 20000 in
theorem gX9_ear_X9_timesOf : GoodIn wsX9_ear (va_wsS RX9 270 yX9_timesOf wsX9_timesOf) := goodIn_app (goodIn_of _ (by decide +kernel)) ggX9_ear_X9_timesOf
theorem dX9_ear_0 : decode cX9_ear 0 = .ok (.aload_n 0, 1) := by decide +kernel
theorem dX9_ear_1 : decode cX9_ear 1 = .ok (.iconst 0, 1) := by decide +kernel
theorem dX9_ear_2 : decode cX9_ear 2 = .ok (.putfield 47, 3) := by decide +kernel
theorem dX9_ear_5 : decode cX9_ear 5 = .ok (.iload_n 1, 1) := by decide +kernel
theorem dX9_ear_6 : decode cX9_ear 6 = .ok (.i2l, 1) := by decide +kernel
theorem dX9_ear_7 : decode cX9_ear 7 = .ok (.lconst 0, 1) := by decide +kernel
theorem dX9_ear_8 : decode cX9_ear 8 = .ok (.ldc2_w 240, 3) := by decide +kernel
theorem dX9_ear_11 : decode cX9_ear 11 = .ok (.invokestatic 57, 3) := by decide +kernel
theorem dX9_ear_14 : decode cX9_ear 14 = .ok (.ifCond .eq 50, 3) := by decide +kernel
theorem dX9_ear_17 : decode cX9_ear 17 = .ok (.iload_n 2, 1) := by decide +kernel
theorem dX9_ear_18 : decode cX9_ear 18 = .ok (.i2l, 1) := by decide +kernel
theorem dX9_ear_19 : decode cX9_ear 19 = .ok (.lconst 0, 1) := by decide +kernel
theorem dX9_ear_20 : decode cX9_ear 20 = .ok (.ldc2_w 240, 3) := by decide +kernel
theorem dX9_ear_23 : decode cX9_ear 23 = .ok (.invokestatic 57, 3) := by decide +kernel
theorem dX9_ear_26 : decode cX9_ear 26 = .ok (.ifCond .eq 38, 3) := by decide +kernel
theorem dX9_ear_29 : decode cX9_ear 29 = .ok (.iload_n 3, 1) := by decide +kernel
theorem dX9_ear_30 : decode cX9_ear 30 = .ok (.i2l, 1) := by decide +kernel
theorem dX9_ear_31 : decode cX9_ear 31 = .ok (.lconst 0, 1) := by decide +kernel
theorem dX9_ear_32 : decode cX9_ear 32 = .ok (.ldc2_w 268, 3) := by decide +kernel
theorem dX9_ear_35 : decode cX9_ear 35 = .ok (.invokestatic 57, 3) := by decide +kernel
theorem dX9_ear_38 : decode cX9_ear 38 = .ok (.ifCond .eq 26, 3) := by decide +kernel
theorem dX9_ear_41 : decode cX9_ear 41 = .ok (.iload 4, 2) := by decide +kernel
theorem dX9_ear_43 : decode cX9_ear 43 = .ok (.i2l, 1) := by decide +kernel
theorem dX9_ear_44 : decode cX9_ear 44 = .ok (.lconst 0, 1) := by decide +kernel
theorem dX9_ear_45 : decode cX9_ear 45 = .ok (.iload_n 3, 1) := by decide +kernel
theorem dX9_ear_46 : decode cX9_ear 46 = .ok (.i2l, 1) := by decide +kernel
theorem dX9_ear_47 : decode cX9_ear 47 = .ok (.invokestatic 57, 3) := by decide +kernel
theorem dX9_ear_50 : decode cX9_ear 50 = .ok (.ifCond .eq 14, 3) := by decide +kernel
theorem dX9_ear_53 : decode cX9_ear 53 = .ok (.iload 5, 2) := by decide +kernel
theorem dX9_ear_55 : decode cX9_ear 55 = .ok (.i2l, 1) := by decide +kernel
theorem dX9_ear_56 : decode cX9_ear 56 = .ok (.lconst 0, 1) := by decide +kernel
theorem dX9_ear_57 : decode cX9_ear 57 = .ok (.lconst 1, 1) := by decide +kernel
theorem dX9_ear_58 : decode cX9_ear 58 = .ok (.invokestatic 57, 3) := by decide +kernel
theorem dX9_ear_61 : decode cX9_ear 61 = .ok (.ifCond .ne 6, 3) := by decide +kernel
theorem dX9_ear_64 : decode cX9_ear 64 = .ok (.ldc 67, 2) := by decide +kernel
theorem dX9_ear_66 : decode cX9_ear 66 = .ok (.ireturn, 1) := by decide +kernel
theorem dX9_ear_67 : decode cX9_ear 67 = .ok (.iload_n 1, 1) := by decide +kernel
theorem dX9_ear_68 : decode cX9_ear 68 = .ok (.bipush 10, 2) := by decide +kernel
theorem dX9_ear_70 : decode cX9_ear 70 = .ok (.iload_n 2, 1) := by decide +kernel
theorem dX9_ear_71 : decode cX9_ear 71 = .ok (.isub, 1) := by decide +kernel
theorem dX9_ear_72 : decode cX9_ear 72 = .ok (.iload 4, 2) := by decide +kernel
theorem dX9_ear_74 : decode cX9_ear 74 = .ok (.invokestatic 270, 3) := by decide +kernel
theorem dX9_ear_77 : decode cX9_ear 77 = .ok (.imul, 1) := by decide +kernel
theorem dX9_ear_78 : decode cX9_ear 78 = .ok (.iload_n 2, 1) := by decide +kernel
theorem dX9_ear_79 : decode cX9_ear 79 = .ok (.iload_n 3, 1) := by decide +kernel
theorem dX9_ear_80 : decode cX9_ear 80 = .ok (.iload 4, 2) := by decide +kernel
theorem dX9_ear_82 : decode cX9_ear 82 = .ok (.isub, 1) := by decide +kernel
theorem dX9_ear_83 : decode cX9_ear 83 = .ok (.invokestatic 270, 3) := by decide +kernel
theorem dX9_ear_86 : decode cX9_ear 86 = .ok (.imul, 1) := by decide +kernel
theorem dX9_ear_87 : decode cX9_ear 87 = .ok (.istore 6, 2) := by decide +kernel
theorem dX9_ear_89 : decode cX9_ear 89 = .ok (.iload 6, 2) := by decide +kernel
theorem dX9_ear_91 : decode cX9_ear 91 = .ok (.bipush 10, 2) := by decide +kernel
theorem dX9_ear_93 : decode cX9_ear 93 = .ok (.iload_n 1, 1) := by decide +kernel
theorem dX9_ear_94 : decode cX9_ear 94 = .ok (.isub, 1) := by decide +kernel
theorem dX9_ear_95 : decode cX9_ear 95 = .ok (.iload_n 2, 1) := by decide +kernel
theorem dX9_ear_96 : decode cX9_ear 96 = .ok (.iload 4, 2) := by decide +kernel
theorem dX9_ear_98 : decode cX9_ear 98 = .ok (.invokestatic 270, 3) := by decide +kernel
theorem dX9_ear_101 : decode cX9_ear 101 = .ok (.imul, 1) := by decide +kernel
theorem dX9_ear_102 : decode cX9_ear 102 = .ok (.bipush 10, 2) := by decide +kernel
theorem dX9_ear_104 : decode cX9_ear 104 = .ok (.iload_n 2, 1) := by decide +kernel
theorem dX9_ear_105 : decode cX9_ear 105 = .ok (.isub, 1) := by decide +kernel
theorem dX9_ear_106 : decode cX9_ear 106 = .ok (.iload_n 3, 1) := by decide +kernel
theorem dX9_ear_107 : decode cX9_ear 107 = .ok (.iload 4, 2) := by decide +kernel
theorem dX9_ear_109 : decode cX9_ear 109 = .ok (.isub, 1) := by decide +kernel
theorem dX9_ear_110 : decode cX9_ear 110 = .ok (.invokestatic 270, 3) := by decide +kernel
theorem dX9_ear_113 : decode cX9_ear 113 = .ok (.imul, 1) := by decide +kernel
theorem dX9_ear_114 : decode cX9_ear 114 = .ok (.iadd, 1) := by decide +kernel
theorem dX9_ear_115 : decode cX9_ear 115 = .ok (.istore 7, 2) := by decide +kernel
theorem dX9_ear_117 : decode cX9_ear 117 = .ok (.iload 7, 2) := by decide +kernel
theorem dX9_ear_119 : decode cX9_ear 119 = .ok (.ifCond .ne 6, 3) := by decide +kernel
theorem dX9_ear_122 : decode cX9_ear 122 = .ok (.iload 5, 2) := by decide +kernel
theorem dX9_ear_124 : decode cX9_ear 124 = .ok (.ireturn, 1) := by decide +kernel
theorem dX9_ear_125 : decode cX9_ear 125 = .ok (.iload 6, 2) := by decide +kernel
theorem dX9_ear_127 : decode cX9_ear 127 = .ok (.istore 8, 2) := by decide +kernel
theorem dX9_ear_129 : decode cX9_ear 129 = .ok (.iload 7, 2) := by decide +kernel
theorem dX9_ear_131 : decode cX9_ear 131 = .ok (.istore 9, 2) := by decide +kernel
theorem dX9_ear_133 : decode cX9_ear 133 = .ok (.iload 9, 2) := by decide +kernel
theorem dX9_ear_135 : decode cX9_ear 135 = .ok (.ifCond .eq 21, 3) := by decide +kernel
theorem dX9_ear_138 : decode cX9_ear 138 = .ok (.iload 8, 2) := by decide +kernel
theorem dX9_ear_140 : decode cX9_ear 140 = .ok (.iload 9, 2) := by decide +kernel
theorem dX9_ear_142 : decode cX9_ear 142 = .ok (.irem, 1) := by decide +kernel
theorem dX9_ear_143 : decode cX9_ear 143 = .ok (.istore 10, 2) := by decide +kernel
theorem dX9_ear_145 : decode cX9_ear 145 = .ok (.iload 9, 2) := by decide +kernel
theorem dX9_ear_147 : decode cX9_ear 147 = .ok (.istore 8, 2) := by decide +kernel
theorem dX9_ear_149 : decode cX9_ear 149 = .ok (.iload 10, 2) := by decide +kernel
theorem dX9_ear_151 : decode cX9_ear 151 = .ok (.istore 9, 2) := by decide +kernel
theorem dX9_ear_153 : decode cX9_ear 153 = .ok (.goto (-20), 3) := by decide +kernel
theorem dX9_ear_156 : decode cX9_ear 156 = .ok (.iload 5, 2) := by decide +kernel
theorem dX9_ear_158 : decode cX9_ear 158 = .ok (.ifCond .ne 8, 3) := by decide +kernel
theorem dX9_ear_161 : decode cX9_ear 161 = .ok (.iload 6, 2) := by decide +kernel
theorem dX9_ear_163 : decode cX9_ear 163 = .ok (.goto 5, 3) := by decide +kernel
theorem dX9_ear_166 : decode cX9_ear 166 = .ok (.iload 7, 2) := by decide +kernel
theorem dX9_ear_168 : decode cX9_ear 168 = .ok (.iload 8, 2) := by decide +kernel
theorem dX9_ear_170 : decode cX9_ear 170 = .ok (.idiv, 1) := by decide +kernel
theorem dX9_ear_171 : decode cX9_ear 171 = .ok (.ireturn, 1) := by decide +kernel
set_option maxRecDepth 20000 in
theorem ggX9_image_X9_in : GoodIn wsX9_image wsX9_in := goodIn_r _ [11] (by decide +kernel) (by decide +kernel)
set_option maxRecDepth 20000 in
theorem gX9_image_X9_in : GoodIn wsX9_image (va_wsS RX9 57 yX9_in wsX9_in) := goodIn_app (goodIn_of _ (by decide +kernel)) ggX9_image_X9_in
theorem dX9_image_0 : decode cX9_image 0 = .ok (.aload_n 0, 1) := by decide +kernel
theorem dX9_image_1 : decode cX9_image 1 = .ok (.iconst 0, 1) := by decide +kernel
theorem dX9_image_2 : decode cX9_image 2 = .ok (.putfield 47, 3) := by decide +kernel
theorem dX9_image_5 : decode cX9_image 5 = .ok (.iload_n 1, 1) := by decide +kernel
theorem dX9_image_6 : decode cX9_image 6 = .ok (.i2l, 1) := by decide +kernel
theorem dX9_image_7 : decode cX9_image 7 = .ok (.lconst 0, 1) := by decide +kernel
theorem dX9_image_8 : decode cX9_image 8 = .ok (.lconst 1, 1) := by decide +kernel
theorem dX9_image_9 : decode cX9_image 9 = .ok (.invokestatic 57, 3) := by decide +kernel
theorem dX9_image_12 : decode cX9_image 12 = .ok (.ifCond .ne 6, 3) := by decide +kernel
theorem dX9_image_15 : decode cX9_image 15 = .ok (.ldc 67, 2) := by decide +kernel
theorem dX9_image_17 : decode cX9_image 17 = .ok (.ireturn, 1) := by decide +kernel
theorem dX9_image_18 : decode cX9_image 18 = .ok (.aload_n 0, 1) := by decide +kernel
theorem dX9_image_19 : decode cX9_image 19 = .ok (.getfield 179, 3) := by decide +kernel
theorem dX9_image_22 : decode cX9_image 22 = .ok (.ifCond .ne 6, 3) := by decide +kernel
theorem dX9_image_25 : decode cX9_image 25 = .ok (.ldc 210, 2) := by decide +kernel
theorem dX9_image_27 : decode cX9_image 27 = .ok (.ireturn, 1) := by decide +kernel
theorem dX9_image_28 : decode cX9_image 28 = .ok (.iconst 0, 1) := by decide +kernel
theorem dX9_image_29 : decode cX9_image 29 = .ok (.istore_n 2, 1) := by decide +kernel
theorem dX9_image_30 : decode cX9_image 30 = .ok (.iload_n 2, 1) := by decide +kernel
theorem dX9_image_31 : decode cX9_image 31 = .ok (.sipush 147, 3) := by decide +kernel
theorem dX9_image_34 : decode cX9_image 34 = .ok (.if_icmp .ge 27, 3) := by decide +kernel
theorem dX9_image_37 : decode cX9_image 37 = .ok (.aload_n 0, 1) := by decide +kernel
theorem dX9_image_38 : decode cX9_image 38 = .ok (.getfield 41, 3) := by decide +kernel
theorem dX9_image_41 : decode cX9_image 41 = .ok (.sipush 147, 3) := by decide +kernel
theorem dX9_image_44 : decode cX9_image 44 = .ok (.iload_n 1, 1) := by decide +kernel
theorem dX9_image_45 : decode cX9_image 45 = .ok (.imul, 1) := by decide +kernel
theorem dX9_image_46 : decode cX9_image 46 = .ok (.iload_n 2, 1) := by decide +kernel
theorem dX9_image_47 : decode cX9_image 47 = .ok (.iadd, 1) := by decide +kernel
theorem dX9_image_48 : decode cX9_image 48 = .ok (.aload_n 0, 1) := by decide +kernel
theorem dX9_image_49 : decode cX9_image 49 = .ok (.getfield 19, 3) := by decide +kernel
theorem dX9_image_52 : decode cX9_image 52 = .ok (.iload_n 2, 1) := by decide +kernel
theorem dX9_image_53 : decode cX9_image 53 = .ok (.iaload, 1) := by decide +kernel
theorem dX9_image_54 : decode cX9_image 54 = .ok (.iastore, 1) := by decide +kernel
theorem dX9_image_55 : decode cX9_image 55 = .ok (.iinc 2 1, 3) := by decide +kernel
theorem dX9_image_58 : decode cX9_image 58 = .ok (.goto (-28), 3) := by decide +kernel
theorem dX9_image_61 : decode cX9_image 61 = .ok (.aload_n 0, 1) := by decide +kernel
theorem dX9_image_62 : decode cX9_image 62 = .ok (.getfield 37, 3) := by decide +kernel
theorem dX9_image_65 : decode cX9_image 65 = .ok (.iload_n 1, 1) := by decide +kernel
theorem dX9_image_66 : decode cX9_image 66 = .ok (.iconst 1, 1) := by decide +kernel
theorem dX9_image_67 : decode cX9_image 67 = .ok (.bastore, 1) := by decide +kernel
theorem dX9_image_68 : decode cX9_image 68 = .ok (.iconst 1, 1) := by decide +kernel
theorem dX9_image_69 : decode cX9_image 69 = .ok (.ireturn, 1) := by decide +kernel
set_option maxRecDepth 20000 in
theorem ggX9_restore_X9_in : GoodIn wsX9_restore wsX9_in := goodIn_r _ [11] (by decide +kernel) (by decide +kernel)
set_option maxRecDepth 20000 in
theorem gX9_restore_X9_in : GoodIn wsX9_restore (va_wsS RX9 57 yX9_in wsX9_in) := goodIn_app (goodIn_of _ (by decide +kernel)) ggX9_restore_X9_in
theorem dX9_restore_0 : decode cX9_restore 0 = .ok (.aload_n 0, 1) := by decide +kernel
theorem dX9_restore_1 : decode cX9_restore 1 = .ok (.iconst 0, 1) := by decide +kernel
theorem dX9_restore_2 : decode cX9_restore 2 = .ok (.putfield 47, 3) := by decide +kernel
theorem dX9_restore_5 : decode cX9_restore 5 = .ok (.iload_n 1, 1) := by decide +kernel
theorem dX9_restore_6 : decode cX9_restore 6 = .ok (.i2l, 1) := by decide +kernel
theorem dX9_restore_7 : decode cX9_restore 7 = .ok (.lconst 0, 1) := by decide +kernel
theorem dX9_restore_8 : decode cX9_restore 8 = .ok (.lconst 1, 1) := by decide +kernel
theorem dX9_restore_9 : decode cX9_restore 9 = .ok (.invokestatic 57, 3) := by decide +kernel
theorem dX9_restore_12 : decode cX9_restore 12 = .ok (.ifCond .ne 6, 3) := by decide +kernel
theorem dX9_restore_15 : decode cX9_restore 15 = .ok (.ldc 67, 2) := by decide +kernel
theorem dX9_restore_17 : decode cX9_restore 17 = .ok (.ireturn, 1) := by decide +kernel
theorem dX9_restore_18 : decode cX9_restore 18 = .ok (.aload_n 0, 1) := by decide +kernel
theorem dX9_restore_19 : decode cX9_restore 19 = .ok (.getfield 37, 3) := by decide +kernel
theorem dX9_restore_22 : decode cX9_restore 22 = .ok (.iload_n 1, 1) := by decide +kernel
theorem dX9_restore_23 : decode cX9_restore 23 = .ok (.baload, 1) := by decide +kernel
theorem dX9_restore_24 : decode cX9_restore 24 = .ok (.ifCond .ne 6, 3) := by decide +kernel
theorem dX9_restore_27 : decode cX9_restore 27 = .ok (.ldc 210, 2) := by decide +kernel
theorem dX9_restore_29 : decode cX9_restore 29 = .ok (.ireturn, 1) := by decide +kernel
theorem dX9_restore_30 : decode cX9_restore 30 = .ok (.iconst 0, 1) := by decide +kernel
theorem dX9_restore_31 : decode cX9_restore 31 = .ok (.istore_n 2, 1) := by decide +kernel
theorem dX9_restore_32 : decode cX9_restore 32 = .ok (.iload_n 2, 1) := by decide +kernel
theorem dX9_restore_33 : decode cX9_restore 33 = .ok (.sipush 147, 3) := by decide +kernel
theorem dX9_restore_36 : decode cX9_restore 36 = .ok (.if_icmp .ge 27, 3) := by decide +kernel
theorem dX9_restore_39 : decode cX9_restore 39 = .ok (.aload_n 0, 1) := by decide +kernel
theorem dX9_restore_40 : decode cX9_restore 40 = .ok (.getfield 19, 3) := by decide +kernel
theorem dX9_restore_43 : decode cX9_restore 43 = .ok (.iload_n 2, 1) := by decide +kernel
theorem dX9_restore_44 : decode cX9_restore 44 = .ok (.aload_n 0, 1) := by decide +kernel
theorem dX9_restore_45 : decode cX9_restore 45 = .ok (.getfield 41, 3) := by decide +kernel
theorem dX9_restore_48 : decode cX9_restore 48 = .ok (.sipush 147, 3) := by decide +kernel
theorem dX9_restore_51 : decode cX9_restore 51 = .ok (.iload_n 1, 1) := by decide +kernel
theorem dX9_restore_52 : decode cX9_restore 52 = .ok (.imul, 1) := by decide +kernel
theorem dX9_restore_53 : decode cX9_restore 53 = .ok (.iload_n 2, 1) := by decide +kernel
theorem dX9_restore_54 : decode cX9_restore 54 = .ok (.iadd, 1) := by decide +kernel
theorem dX9_restore_55 : decode cX9_restore 55 = .ok (.iaload, 1) := by decide +kernel
theorem dX9_restore_56 : decode cX9_restore 56 = .ok (.iastore, 1) := by decide +kernel
theorem dX9_restore_57 : decode cX9_restore 57 = .ok (.iinc 2 1, 3) := by decide +kernel
theorem dX9_restore_60 : decode cX9_restore 60 = .ok (.goto (-28), 3) := by decide +kernel
theorem dX9_restore_63 : decode cX9_restore 63 = .ok (.aload_n 0, 1) := by decide +kernel
theorem dX9_restore_64 : decode cX9_restore 64 = .ok (.iconst 0, 1) := by decide +kernel
theorem dX9_restore_65 : decode cX9_restore 65 = .ok (.putfield 183, 3) := by decide +kernel
theorem dX9_restore_68 : decode cX9_restore 68 = .ok (.iconst 1, 1) := by decide +kernel
theorem dX9_restore_69 : decode cX9_restore 69 = .ok (.ireturn, 1) := by decide +kernel
theorem dX9_isOf_0 : decode cX9_isOf 0 = .ok (.iload_n 1, 1) := by decide +kernel
theorem dX9_isOf_1 : decode cX9_isOf 1 = .ok (.ifCond .eq 28, 3) := by decide +kernel
theorem dX9_isOf_4 : decode cX9_isOf 4 = .ok (.iload_n 0, 1) := by decide +kernel
theorem dX9_isOf_5 : decode cX9_isOf 5 = .ok (.iload_n 1, 1) := by decide +kernel
theorem dX9_isOf_6 : decode cX9_isOf 6 = .ok (.if_icmp .eq 23, 3) := by decide +kernel
theorem dX9_isOf_9 : decode cX9_isOf 9 = .ok (.iload_n 1, 1) := by decide +kernel
theorem dX9_isOf_10 : decode cX9_isOf 10 = .ok (.iconst 1, 1) := by decide +kernel
theorem dX9_isOf_11 : decode cX9_isOf 11 = .ok (.if_icmp .ne 8, 3) := by decide +kernel
theorem dX9_isOf_14 : decode cX9_isOf 14 = .ok (.iload_n 0, 1) := by decide +kernel
theorem dX9_isOf_15 : decode cX9_isOf 15 = .ok (.iconst 5, 1) := by decide +kernel
theorem dX9_isOf_16 : decode cX9_isOf 16 = .ok (.if_icmp .lt 13, 3) := by decide +kernel
theorem dX9_isOf_19 : decode cX9_isOf 19 = .ok (.iload_n 1, 1) := by decide +kernel
theorem dX9_isOf_20 : decode cX9_isOf 20 = .ok (.iconst 3, 1) := by decide +kernel
theorem dX9_isOf_21 : decode cX9_isOf 21 = .ok (.if_icmp .ne 12, 3) := by decide +kernel
theorem dX9_isOf_24 : decode cX9_isOf 24 = .ok (.iload_n 0, 1) := by decide +kernel
theorem dX9_isOf_25 : decode cX9_isOf 25 = .ok (.iconst 4, 1) := by decide +kernel
theorem dX9_isOf_26 : decode cX9_isOf 26 = .ok (.if_icmp .ne 7, 3) := by decide +kernel
theorem dX9_isOf_29 : decode cX9_isOf 29 = .ok (.iconst 1, 1) := by decide +kernel
theorem dX9_isOf_30 : decode cX9_isOf 30 = .ok (.goto 4, 3) := by decide +kernel
theorem dX9_isOf_33 : decode cX9_isOf 33 = .ok (.iconst 0, 1) := by decide +kernel
theorem dX9_isOf_34 : decode cX9_isOf 34 = .ok (.ireturn, 1) := by decide +kernel
set_option maxRecDepth 20000 in
theorem ggX9_kind_X9_isCoin : GoodIn wsX9_kind wsX9_isCoin := goodIn_r _ [7, 8, 9, 10, 6, 11, 16, 17, 18, 19, 20, 21, 22, 23, 24, 25, 26, 27, 28, 29, 30, 31, 32, 33, 34, 35, 36, 37, 38, 39, 40, 41] (by decide +kernel) (by decide +kernel)
set_option maxRecDepth 20000 in
theorem gX9_kind_X9_isCoin : GoodIn wsX9_kind (wsV RX9 204 RX9 yX9_isCoin wsX9_isCoin) := goodIn_app (goodIn_of _ (by decide +kernel)) ggX9_kind_X9_isCoin
set_option maxRecDepth 20000 in
theorem ggX9_kind_X9_of : GoodIn wsX9_kind wsX9_of := goodIn_r _ [15, 8, 16, 17, 18, 19, 20, 21, 22, 23, 24, 25, 26, 27, 28, 29, 30, 31, 32, 33, 34, 35, 36, 37, 38, 39, 40, 41] (by decide +kernel) (by decide +kernel)
set_option maxRecDepth 20000 in
theorem gX9_kind_X9_of : GoodIn wsX9_kind (wsV RX9 189 RX9 yX9_of wsX9_of) := goodIn_app (goodIn_of _ (by decide +kernel)) ggX9_kind_X9_of
theorem dX9_kind_0 : decode cX9_kind 0 = .ok (.aload_n 0, 1) := by decide +kernel
theorem dX9_kind_1 : decode cX9_kind 1 = .ok (.iconst 0, 1) := by decide +kernel
theorem dX9_kind_2 : decode cX9_kind 2 = .ok (.putfield 47, 3) := by decide +kernel
theorem dX9_kind_5 : decode cX9_kind 5 = .ok (.aload_n 0, 1) := by decide +kernel
theorem dX9_kind_6 : decode cX9_kind 6 = .ok (.iload_n 1, 1) := by decide +kernel
theorem dX9_kind_7 : decode cX9_kind 7 = .ok (.invokevirtual 204, 3) := by decide +kernel
theorem dX9_kind_10 : decode cX9_kind 10 = .ok (.ifCond .eq 12, 3) := by decide +kernel
theorem dX9_kind_13 : decode cX9_kind 13 = .ok (.aload_n 0, 1) := by decide +kernel
theorem dX9_kind_14 : decode cX9_kind 14 = .ok (.iload_n 1, 1) := by decide +kernel
theorem dX9_kind_15 : decode cX9_kind 15 = .ok (.iconst 0, 1) := by decide +kernel
theorem dX9_kind_16 : decode cX9_kind 16 = .ok (.invokevirtual 189, 3) := by decide +kernel
theorem dX9_kind_19 : decode cX9_kind 19 = .ok (.goto 5, 3) := by decide +kernel
theorem dX9_kind_22 : decode cX9_kind 22 = .ok (.ldc 67, 2) := by decide +kernel
theorem dX9_kind_24 : decode cX9_kind 24 = .ok (.ireturn, 1) := by decide +kernel
set_option maxRecDepth 20000 in
theorem ggX9_as_X9_isCoin : GoodIn wsX9_as wsX9_isCoin := goodIn_r _ [9, 10, 11, 12, 8, 13, 26, 27, 28, 29, 30, 31, 32, 33, 34, 35, 36, 37, 38, 39, 40, 41, 42, 43, 44, 45, 46, 47, 48, 49, 50, 51] (by decide +kernel) (by decide +kernel)
set_option maxRecDepth 20000 in
theorem gX9_as_X9_isCoin : GoodIn wsX9_as (wsV RX9 204 RX9 yX9_isCoin wsX9_isCoin) := goodIn_app (goodIn_of _ (by decide +kernel)) ggX9_as_X9_isCoin
set_option maxRecDepth 20000 in
theorem ggX9_as_X9_in : GoodIn wsX9_as wsX9_in := goodIn_r _ [13] (by decide +kernel) (by decide +kernel)
set_option maxRecDepth 20000 in
theorem gX9_as_X9_in : GoodIn wsX9_as (va_wsS RX9 57 yX9_in wsX9_in) := goodIn_app (goodIn_of _ (by decide +kernel)) ggX9_as_X9_in
set_option maxRecDepth 20000 in
theorem ggX9_as_X9_of : GoodIn wsX9_as wsX9_of := goodIn_r _ [17, 10, 26, 27, 28, 29, 30, 31, 32, 33, 34, 35, 36, 37, 38, 39, 40, 41, 42, 43, 44, 45, 46, 47, 48, 49, 50, 51] (by decide +kernel) (by decide +kernel)
set_option maxRecDepth 20000 in
theorem gX9_as_X9_of : GoodIn wsX9_as (wsV RX9 189 RX9 yX9_of wsX9_of) := goodIn_app (goodIn_of _ (by decide +kernel)) ggX9_as_X9_of
set_option maxRecDepth 20000 in
theorem ggX9_as_X9_isOf : GoodIn wsX9_as wsX9_isOf := goodIn_r _ [20] (by decide +kernel) (by decide +kernel)
set_option maxRecDepth 20000 in
theorem gX9_as_X9_isOf : GoodIn wsX9_as (va_wsS RX9 275 yX9_isOf wsX9_isOf) := goodIn_app (goodIn_of _ (by decide +kernel)) ggX9_as_X9_isOf
set_option maxRecDepth 20000 in
theorem ggX9_as_X9_finding : GoodIn wsX9_as wsX9_finding := goodIn_r _ [24, 4, 25, 26, 27, 28, 29, 30, 31, 32, 33, 34, 35, 36, 37, 38, 39, 40, 41, 42, 43, 44, 45, 46, 47, 48, 49, 50, 51] (by decide +kernel) (by decide +kernel)
set_option maxRecDepth 20000 in
theorem gX9_as_X9_finding : GoodIn wsX9_as (wsV RX9 68 RX9 yX9_finding wsX9_finding) := goodIn_app (goodIn_of _ (by decide +kernel)) ggX9_as_X9_finding
theorem dX9_as_0 : decode cX9_as 0 = .ok (.aload_n 0, 1) := by decide +kernel
theorem dX9_as_1 : decode cX9_as 1 = .ok (.iconst 0, 1) := by decide +kernel
theorem dX9_as_2 : decode cX9_as 2 = .ok (.putfield 47, 3) := by decide +kernel
theorem dX9_as_5 : decode cX9_as 5 = .ok (.aload_n 0, 1) := by decide +kernel
theorem dX9_as_6 : decode cX9_as 6 = .ok (.iload_n 1, 1) := by decide +kernel
theorem dX9_as_7 : decode cX9_as 7 = .ok (.invokevirtual 204, 3) := by decide +kernel
theorem dX9_as_10 : decode cX9_as 10 = .ok (.ifCond .eq 15, 3) := by decide +kernel
theorem dX9_as_13 : decode cX9_as 13 = .ok (.iload_n 2, 1) := by decide +kernel
theorem dX9_as_14 : decode cX9_as 14 = .ok (.i2l, 1) := by decide +kernel
theorem dX9_as_15 : decode cX9_as 15 = .ok (.lconst 0, 1) := by decide +kernel
theorem dX9_as_16 : decode cX9_as 16 = .ok (.ldc2_w 273, 3) := by decide +kernel
theorem dX9_as_19 : decode cX9_as 19 = .ok (.invokestatic 57, 3) := by decide +kernel
theorem dX9_as_22 : decode cX9_as 22 = .ok (.ifCond .ne 6, 3) := by decide +kernel
theorem dX9_as_25 : decode cX9_as 25 = .ok (.ldc 67, 2) := by decide +kernel
theorem dX9_as_27 : decode cX9_as 27 = .ok (.ireturn, 1) := by decide +kernel
theorem dX9_as_28 : decode cX9_as 28 = .ok (.aload_n 0, 1) := by decide +kernel
theorem dX9_as_29 : decode cX9_as 29 = .ok (.iconst 0, 1) := by decide +kernel
theorem dX9_as_30 : decode cX9_as 30 = .ok (.putfield 51, 3) := by decide +kernel
theorem dX9_as_33 : decode cX9_as 33 = .ok (.aload_n 0, 1) := by decide +kernel
theorem dX9_as_34 : decode cX9_as 34 = .ok (.iload_n 1, 1) := by decide +kernel
theorem dX9_as_35 : decode cX9_as 35 = .ok (.iconst 0, 1) := by decide +kernel
theorem dX9_as_36 : decode cX9_as 36 = .ok (.invokevirtual 189, 3) := by decide +kernel
theorem dX9_as_39 : decode cX9_as 39 = .ok (.iload_n 2, 1) := by decide +kernel
theorem dX9_as_40 : decode cX9_as 40 = .ok (.invokestatic 275, 3) := by decide +kernel
theorem dX9_as_43 : decode cX9_as 43 = .ok (.ifCond .eq 7, 3) := by decide +kernel
theorem dX9_as_46 : decode cX9_as 46 = .ok (.iload_n 1, 1) := by decide +kernel
theorem dX9_as_47 : decode cX9_as 47 = .ok (.goto 8, 3) := by decide +kernel
theorem dX9_as_50 : decode cX9_as 50 = .ok (.aload_n 0, 1) := by decide +kernel
theorem dX9_as_51 : decode cX9_as 51 = .ok (.iconst 3, 1) := by decide +kernel
theorem dX9_as_52 : decode cX9_as 52 = .ok (.invokevirtual 68, 3) := by decide +kernel
theorem dX9_as_55 : decode cX9_as 55 = .ok (.ireturn, 1) := by decide +kernel
theorem dX9_began_0 : decode cX9_began 0 = .ok (.aload_n 0, 1) := by decide +kernel
theorem dX9_began_1 : decode cX9_began 1 = .ok (.getfield 279, 3) := by decide +kernel
theorem dX9_began_4 : decode cX9_began 4 = .ok (.bipush 16, 2) := by decide +kernel
theorem dX9_began_6 : decode cX9_began 6 = .ok (.if_icmp .ge 23, 3) := by decide +kernel
theorem dX9_began_9 : decode cX9_began 9 = .ok (.aload_n 0, 1) := by decide +kernel
theorem dX9_began_10 : decode cX9_began 10 = .ok (.getfield 44, 3) := by decide +kernel
theorem dX9_began_13 : decode cX9_began 13 = .ok (.aload_n 0, 1) := by decide +kernel
theorem dX9_began_14 : decode cX9_began 14 = .ok (.getfield 279, 3) := by decide +kernel
theorem dX9_began_17 : decode cX9_began 17 = .ok (.iload_n 1, 1) := by decide +kernel
theorem dX9_began_18 : decode cX9_began 18 = .ok (.iastore, 1) := by decide +kernel
theorem dX9_began_19 : decode cX9_began 19 = .ok (.aload_n 0, 1) := by decide +kernel
theorem dX9_began_20 : decode cX9_began 20 = .ok (.dup, 1) := by decide +kernel
theorem dX9_began_21 : decode cX9_began 21 = .ok (.getfield 279, 3) := by decide +kernel
theorem dX9_began_24 : decode cX9_began 24 = .ok (.iconst 1, 1) := by decide +kernel
theorem dX9_began_25 : decode cX9_began 25 = .ok (.iadd, 1) := by decide +kernel
theorem dX9_began_26 : decode cX9_began 26 = .ok (.putfield 279, 3) := by decide +kernel
theorem dX9_began_29 : decode cX9_began 29 = .ok (.return_, 1) := by decide +kernel
set_option maxRecDepth 20000 in
theorem ggX9_plainSize_X9_began : GoodIn wsX9_plainSize wsX9_began := goodIn_r _ [5, 6, 7, 13, 14, 15, 16, 17, 18, 19, 20, 21, 22, 23, 24, 25, 26, 27, 28, 29, 30, 31, 32, 33, 34, 35, 36, 37, 38] (by decide +kernel) (by decide +kernel)
set_option maxRecDepth 20000 in
theorem gX9_plainSize_X9_began : GoodIn wsX9_plainSize (wsV RX9 282 RX9 yX9_began wsX9_began) := goodIn_app (goodIn_of _ (by decide +kernel)) ggX9_plainSize_X9_began
set_option maxRecDepth 20000 in
theorem ggX9_plainSize_X9_of : GoodIn wsX9_plainSize wsX9_of := goodIn_r _ [11, 12, 13, 14, 15, 16, 17, 18, 19, 20, 21, 22, 23, 24, 25, 26, 27, 28, 29, 30, 31, 32, 33, 34, 35, 36, 37, 38] (by decide +kernel) (by decide +kernel)
set_option maxRecDepth 20000 in
theorem gX9_plainSize_X9_of : GoodIn wsX9_plainSize (wsV RX9 189 RX9 yX9_of wsX9_of) := goodIn_app (goodIn_of _ (by decide +kernel)) ggX9_plainSize_X9_of
theorem dX9_plainSize_0 : decode cX9_plainSize 0 = .ok (.aload_n 0, 1) := by decide +kernel
theorem dX9_plainSize_1 : decode cX9_plainSize 1 = .ok (.bipush 10, 2) := by decide +kernel
theorem dX9_plainSize_3 : decode cX9_plainSize 3 = .ok (.invokevirtual 282, 3) := by decide +kernel
theorem dX9_plainSize_6 : decode cX9_plainSize 6 = .ok (.aload_n 0, 1) := by decide +kernel
theorem dX9_plainSize_7 : decode cX9_plainSize 7 = .ok (.iload_n 1, 1) := by decide +kernel
theorem dX9_plainSize_8 : decode cX9_plainSize 8 = .ok (.iconst 2, 1) := by decide +kernel
theorem dX9_plainSize_9 : decode cX9_plainSize 9 = .ok (.invokevirtual 189, 3) := by decide +kernel
theorem dX9_plainSize_12 : decode cX9_plainSize 12 = .ok (.ireturn, 1) := by decide +kernel
set_option maxRecDepth 20000 in
theorem ggX9_forgedSize_X9_began : GoodIn wsX9_forgedSize wsX9_began := goodIn_r _ [5, 6, 7, 17, 18, 19, 20, 21, 22, 23, 24, 25, 26, 27, 28, 29, 30, 31, 32, 33, 34, 35, 36, 37, 38, 39, 40, 41, 42] (by decide +kernel) (by decide +kernel)
set_option maxRecDepth 20000 in
theorem gX9_forgedSize_X9_began : GoodIn wsX9_forgedSize (wsV RX9 282 RX9 yX9_began wsX9_began) := goodIn_app (goodIn_of _ (by decide +kernel)) ggX9_forgedSize_X9_began
set_option maxRecDepth 20000 in
theorem ggX9_forgedSize_X9_plainSize : GoodIn wsX9_forgedSize wsX9_plainSize := goodIn_r _ [11, 1, 2, 3, 4, 5, 6, 7, 12, 13, 14, 15, 16, 17, 18, 19, 20, 21, 22, 23, 24, 25, 26, 27, 28, 29, 30, 31, 32, 33, 34, 35, 36, 37, 38, 39, 40, 41, 42] (by decide +kernel) (by decide +kernel)
set_option maxRecDepth 20000 in
theorem gX9_forgedSize_X9_plainSize : GoodIn wsX9_forgedSize (wsV RX9 285 RX9 yX9_plainSize wsX9_plainSize) := goodIn_app (goodIn_of _ (by decide +kernel)) ggX9_forgedSize_X9_plainSize
theorem dX9_forgedSize_0 : decode cX9_forgedSize 0 = .ok (.aload_n 0, 1) := by decide +kernel
theorem dX9_forgedSize_1 : decode cX9_forgedSize 1 = .ok (.bipush 13, 2) := by decide +kernel
theorem dX9_forgedSize_3 : decode cX9_forgedSize 3 = .ok (.invokevirtual 282, 3) := by decide +kernel
theorem dX9_forgedSize_6 : decode cX9_forgedSize 6 = .ok (.aload_n 0, 1) := by decide +kernel
theorem dX9_forgedSize_7 : decode cX9_forgedSize 7 = .ok (.iload_n 1, 1) := by decide +kernel
theorem dX9_forgedSize_8 : decode cX9_forgedSize 8 = .ok (.invokevirtual 285, 3) := by decide +kernel
theorem dX9_forgedSize_11 : decode cX9_forgedSize 11 = .ok (.bipush 100, 2) := by decide +kernel
theorem dX9_forgedSize_13 : decode cX9_forgedSize 13 = .ok (.isub, 1) := by decide +kernel
theorem dX9_forgedSize_14 : decode cX9_forgedSize 14 = .ok (.ireturn, 1) := by decide +kernel
set_option maxRecDepth 20000 in
theorem ggX9_markOf_X9_of : GoodIn wsX9_markOf wsX9_of := goodIn_r _ [5, 6, 25, 26, 27, 28, 29, 30, 31, 32, 33, 34, 35, 36, 37, 38, 39, 40, 41, 42, 43, 44, 45, 46, 47, 48, 49, 50] (by decide +kernel) (by decide +kernel)
set_option maxRecDepth 20000 in
theorem gX9_markOf_X9_of : GoodIn wsX9_markOf (wsV RX9 189 RX9 yX9_of wsX9_of) := goodIn_app (goodIn_of _ (by decide +kernel)) ggX9_markOf_X9_of
set_option maxRecDepth 20000 in
theorem ggX9_markOf_X9_began : GoodIn wsX9_markOf wsX9_began := goodIn_r _ [10, 11, 12, 25, 26, 27, 28, 29, 30, 31, 32, 33, 34, 35, 36, 37, 38, 39, 40, 41, 42, 43, 44, 45, 46, 47, 48, 49, 50] (by decide +kernel) (by decide +kernel)
set_option maxRecDepth 20000 in
theorem gX9_markOf_X9_began : GoodIn wsX9_markOf (wsV RX9 282 RX9 yX9_began wsX9_began) := goodIn_app (goodIn_of _ (by decide +kernel)) ggX9_markOf_X9_began
set_option maxRecDepth 20000 in
theorem ggX9_markOf_X9_forgedSize : GoodIn wsX9_markOf wsX9_forgedSize := goodIn_r _ [16, 7, 8, 9, 4, 10, 11, 12, 17, 18, 19, 20, 1, 2, 3, 5, 6, 25, 26, 27, 28, 29, 30, 31, 32, 33, 34, 35, 36, 37, 38, 39, 40, 41, 42, 43, 44, 45, 46, 47, 48, 49, 50] (by decide +kernel) (by decide +kernel)
set_option maxRecDepth 20000 in
theorem gX9_markOf_X9_forgedSize : GoodIn wsX9_markOf (wsV RX9 288 RX9 yX9_forgedSize wsX9_forgedSize) := goodIn_app (goodIn_of _ (by decide +kernel)) ggX9_markOf_X9_forgedSize
set_option maxRecDepth 20000 in
theorem ggX9_markOf_X9_spanOf : GoodIn wsX9_markOf wsX9_spanOf := goodIn_r _ [24, 6, 1, 2, 3, 4, 5, 25, 26, 27, 28, 29, 30, 31, 32, 33, 34, 35, 36, 37, 38, 39, 40, 41, 42, 43, 44, 45, 46, 47, 48, 49, 50] (by decide +kernel) (by decide +kernel)
set_option maxRecDepth 20000 in
theorem gX9_markOf_X9_spanOf : GoodIn wsX9_markOf (wsV RX9 192 RX9 yX9_spanOf wsX9_spanOf) := goodIn_app (goodIn_of _ (by decide +kernel)) ggX9_markOf_X9_spanOf
theorem dX9_markOf_0 : decode cX9_markOf 0 = .ok (.aload_n 0, 1) := by decide +kernel
theorem dX9_markOf_1 : decode cX9_markOf 1 = .ok (.iload_n 1, 1) := by decide +kernel
theorem dX9_markOf_2 : decode cX9_markOf 2 = .ok (.iconst 0, 1) := by decide +kernel
theorem dX9_markOf_3 : decode cX9_markOf 3 = .ok (.invokevirtual 189, 3) := by decide +kernel
theorem dX9_markOf_6 : decode cX9_markOf 6 = .ok (.istore_n 2, 1) := by decide +kernel
theorem dX9_markOf_7 : decode cX9_markOf 7 = .ok (.iload_n 2, 1) := by decide +kernel
theorem dX9_markOf_8 : decode cX9_markOf 8 = .ok (.iconst 5, 1) := by decide +kernel
theorem dX9_markOf_9 : decode cX9_markOf 9 = .ok (.if_icmp .ne 23, 3) := by decide +kernel
theorem dX9_markOf_12 : decode cX9_markOf 12 = .ok (.aload_n 0, 1) := by decide +kernel
theorem dX9_markOf_13 : decode cX9_markOf 13 = .ok (.bipush 23, 2) := by decide +kernel
theorem dX9_markOf_15 : decode cX9_markOf 15 = .ok (.invokevirtual 282, 3) := by decide +kernel
theorem dX9_markOf_18 : decode cX9_markOf 18 = .ok (.aload_n 0, 1) := by decide +kernel
theorem dX9_markOf_19 : decode cX9_markOf 19 = .ok (.bipush 20, 2) := by decide +kernel
theorem dX9_markOf_21 : decode cX9_markOf 21 = .ok (.invokevirtual 282, 3) := by decide +kernel
theorem dX9_markOf_24 : decode cX9_markOf 24 = .ok (.iload_n 1, 1) := by decide +kernel
theorem dX9_markOf_25 : decode cX9_markOf 25 = .ok (.aload_n 0, 1) := by decide +kernel
theorem dX9_markOf_26 : decode cX9_markOf 26 = .ok (.iload_n 1, 1) := by decide +kernel
theorem dX9_markOf_27 : decode cX9_markOf 27 = .ok (.invokevirtual 288, 3) := by decide +kernel
theorem dX9_markOf_30 : decode cX9_markOf 30 = .ok (.isub, 1) := by decide +kernel
theorem dX9_markOf_31 : decode cX9_markOf 31 = .ok (.ireturn, 1) := by decide +kernel
theorem dX9_markOf_32 : decode cX9_markOf 32 = .ok (.iload_n 2, 1) := by decide +kernel
theorem dX9_markOf_33 : decode cX9_markOf 33 = .ok (.iconst 4, 1) := by decide +kernel
theorem dX9_markOf_34 : decode cX9_markOf 34 = .ok (.if_icmp .ne 9, 3) := by decide +kernel
theorem dX9_markOf_37 : decode cX9_markOf 37 = .ok (.aload_n 0, 1) := by decide +kernel
theorem dX9_markOf_38 : decode cX9_markOf 38 = .ok (.bipush 24, 2) := by decide +kernel
theorem dX9_markOf_40 : decode cX9_markOf 40 = .ok (.invokevirtual 282, 3) := by decide +kernel
theorem dX9_markOf_43 : decode cX9_markOf 43 = .ok (.iload_n 2, 1) := by decide +kernel
theorem dX9_markOf_44 : decode cX9_markOf 44 = .ok (.iconst 3, 1) := by decide +kernel
theorem dX9_markOf_45 : decode cX9_markOf 45 = .ok (.if_icmp .lt 9, 3) := by decide +kernel
theorem dX9_markOf_48 : decode cX9_markOf 48 = .ok (.aload_n 0, 1) := by decide +kernel
theorem dX9_markOf_49 : decode cX9_markOf 49 = .ok (.bipush 22, 2) := by decide +kernel
theorem dX9_markOf_51 : decode cX9_markOf 51 = .ok (.invokevirtual 282, 3) := by decide +kernel
theorem dX9_markOf_54 : decode cX9_markOf 54 = .ok (.aload_n 0, 1) := by decide +kernel
theorem dX9_markOf_55 : decode cX9_markOf 55 = .ok (.bipush 21, 2) := by decide +kernel
theorem dX9_markOf_57 : decode cX9_markOf 57 = .ok (.invokevirtual 282, 3) := by decide +kernel
theorem dX9_markOf_60 : decode cX9_markOf 60 = .ok (.aload_n 0, 1) := by decide +kernel
theorem dX9_markOf_61 : decode cX9_markOf 61 = .ok (.bipush 20, 2) := by decide +kernel
theorem dX9_markOf_63 : decode cX9_markOf 63 = .ok (.invokevirtual 282, 3) := by decide +kernel
theorem dX9_markOf_66 : decode cX9_markOf 66 = .ok (.iload_n 1, 1) := by decide +kernel
theorem dX9_markOf_67 : decode cX9_markOf 67 = .ok (.aload_n 0, 1) := by decide +kernel
theorem dX9_markOf_68 : decode cX9_markOf 68 = .ok (.iload_n 1, 1) := by decide +kernel
theorem dX9_markOf_69 : decode cX9_markOf 69 = .ok (.invokevirtual 192, 3) := by decide +kernel
theorem dX9_markOf_72 : decode cX9_markOf 72 = .ok (.iadd, 1) := by decide +kernel
theorem dX9_markOf_73 : decode cX9_markOf 73 = .ok (.iload_n 2, 1) := by decide +kernel
theorem dX9_markOf_74 : decode cX9_markOf 74 = .ok (.iconst 3, 1) := by decide +kernel
theorem dX9_markOf_75 : decode cX9_markOf 75 = .ok (.if_icmp .lt 9, 3) := by decide +kernel
theorem dX9_markOf_78 : decode cX9_markOf 78 = .ok (.sipush 1000, 3) := by decide +kernel
theorem dX9_markOf_81 : decode cX9_markOf 81 = .ok (.goto 4, 3) := by decide +kernel
theorem dX9_markOf_84 : decode cX9_markOf 84 = .ok (.iconst 0, 1) := by decide +kernel
theorem dX9_markOf_85 : decode cX9_markOf 85 = .ok (.isub, 1) := by decide +kernel
theorem dX9_markOf_86 : decode cX9_markOf 86 = .ok (.istore_n 3, 1) := by decide +kernel
theorem dX9_markOf_87 : decode cX9_markOf 87 = .ok (.iload_n 2, 1) := by decide +kernel
theorem dX9_markOf_88 : decode cX9_markOf 88 = .ok (.iconst 4, 1) := by decide +kernel
theorem dX9_markOf_89 : decode cX9_markOf 89 = .ok (.if_icmp .ne 9, 3) := by decide +kernel
theorem dX9_markOf_92 : decode cX9_markOf 92 = .ok (.iconst 2, 1) := by decide +kernel
theorem dX9_markOf_93 : decode cX9_markOf 93 = .ok (.iload_n 3, 1) := by decide +kernel
theorem dX9_markOf_94 : decode cX9_markOf 94 = .ok (.imul, 1) := by decide +kernel
theorem dX9_markOf_95 : decode cX9_markOf 95 = .ok (.goto 4, 3) := by decide +kernel
theorem dX9_markOf_98 : decode cX9_markOf 98 = .ok (.iload_n 3, 1) := by decide +kernel
theorem dX9_markOf_99 : decode cX9_markOf 99 = .ok (.ireturn, 1) := by decide +kernel
set_option maxRecDepth 20000 in
theorem ggX9_sizeOf_X9_of : GoodIn wsX9_sizeOf wsX9_of := goodIn_r _ [5, 6, 29, 30, 31, 32, 33, 34, 35, 36, 37, 38, 39, 40, 41, 42, 43, 44, 45, 46, 47, 48, 49, 50, 51, 52, 53, 54] (by decide +kernel) (by decide +kernel)
set_option maxRecDepth 20000 in
theorem gX9_sizeOf_X9_of : GoodIn wsX9_sizeOf (wsV RX9 189 RX9 yX9_of wsX9_of) := goodIn_app (goodIn_of _ (by decide +kernel)) ggX9_sizeOf_X9_of
set_option maxRecDepth 20000 in
theorem ggX9_sizeOf_X9_forgedSize : GoodIn wsX9_sizeOf wsX9_forgedSize := goodIn_r _ [10, 11, 12, 13, 4, 14, 15, 16, 17, 18, 19, 20, 1, 2, 3, 5, 6, 29, 30, 31, 32, 33, 34, 35, 36, 37, 38, 39, 40, 41, 42, 43, 44, 45, 46, 47, 48, 49, 50, 51, 52, 53, 54] (by decide +kernel) (by decide +kernel)
set_option maxRecDepth 20000 in
theorem gX9_sizeOf_X9_forgedSize : GoodIn wsX9_sizeOf (wsV RX9 288 RX9 yX9_forgedSize wsX9_forgedSize) := goodIn_app (goodIn_of _ (by decide +kernel)) ggX9_sizeOf_X9_forgedSize
set_option maxRecDepth 20000 in
theorem ggX9_sizeOf_X9_began : GoodIn wsX9_sizeOf wsX9_began := goodIn_r _ [14, 15, 16, 29, 30, 31, 32, 33, 34, 35, 36, 37, 38, 39, 40, 41, 42, 43, 44, 45, 46, 47, 48, 49, 50, 51, 52, 53, 54] (by decide +kernel) (by decide +kernel)
set_option maxRecDepth 20000 in
theorem gX9_sizeOf_X9_began : GoodIn wsX9_sizeOf (wsV RX9 282 RX9 yX9_began wsX9_began) := goodIn_app (goodIn_of _ (by decide +kernel)) ggX9_sizeOf_X9_began
set_option maxRecDepth 20000 in
theorem ggX9_sizeOf_X9_plainSize : GoodIn wsX9_sizeOf wsX9_plainSize := goodIn_r _ [20, 11, 12, 13, 4, 14, 15, 16, 1, 2, 3, 5, 6, 29, 30, 31, 32, 33, 34, 35, 36, 37, 38, 39, 40, 41, 42, 43, 44, 45, 46, 47, 48, 49, 50, 51, 52, 53, 54] (by decide +kernel) (by decide +kernel)
set_option maxRecDepth 20000 in
theorem gX9_sizeOf_X9_plainSize : GoodIn wsX9_sizeOf (wsV RX9 285 RX9 yX9_plainSize wsX9_plainSize) := goodIn_app (goodIn_of _ (by decide +kernel)) ggX9_sizeOf_X9_plainSize
set_option maxRecDepth 20000 in
theorem ggX9_sizeOf_X9_markOf : GoodIn wsX9_sizeOf wsX9_markOf := goodIn_r _ [24, 1, 2, 3, 4, 5, 6, 11, 12, 13, 14, 15, 16, 7, 8, 9, 10, 17, 18, 19, 20, 25, 26, 27, 28, 29, 30, 31, 32, 33, 34, 35, 36, 37, 38, 39, 40, 41, 42, 43, 44, 45, 46, 47, 48, 49, 50, 51, 52, 53, 54] (by decide +kernel) (by decide +kernel)
set_option maxRecDepth 20000 in
theorem gX9_sizeOf_X9_markOf : GoodIn wsX9_sizeOf (wsV RX9 291 RX9 yX9_markOf wsX9_markOf) := goodIn_app (goodIn_of _ (by decide +kernel)) ggX9_sizeOf_X9_markOf
theorem dX9_sizeOf_0 : decode cX9_sizeOf 0 = .ok (.aload_n 0, 1) := by decide +kernel
theorem dX9_sizeOf_1 : decode cX9_sizeOf 1 = .ok (.iload_n 1, 1) := by decide +kernel
theorem dX9_sizeOf_2 : decode cX9_sizeOf 2 = .ok (.iconst 0, 1) := by decide +kernel
theorem dX9_sizeOf_3 : decode cX9_sizeOf 3 = .ok (.invokevirtual 189, 3) := by decide +kernel
theorem dX9_sizeOf_6 : decode cX9_sizeOf 6 = .ok (.istore_n 2, 1) := by decide +kernel
theorem dX9_sizeOf_7 : decode cX9_sizeOf 7 = .ok (.iload_n 2, 1) := by decide +kernel
theorem dX9_sizeOf_8 : decode cX9_sizeOf 8 = .ok (.iconst 5, 1) := by decide +kernel
theorem dX9_sizeOf_9 : decode cX9_sizeOf 9 = .ok (.if_icmp .ne 9, 3) := by decide +kernel
theorem dX9_sizeOf_12 : decode cX9_sizeOf 12 = .ok (.aload_n 0, 1) := by decide +kernel
theorem dX9_sizeOf_13 : decode cX9_sizeOf 13 = .ok (.iload_n 1, 1) := by decide +kernel
theorem dX9_sizeOf_14 : decode cX9_sizeOf 14 = .ok (.invokevirtual 288, 3) := by decide +kernel
theorem dX9_sizeOf_17 : decode cX9_sizeOf 17 = .ok (.ireturn, 1) := by decide +kernel
theorem dX9_sizeOf_18 : decode cX9_sizeOf 18 = .ok (.iload_n 2, 1) := by decide +kernel
theorem dX9_sizeOf_19 : decode cX9_sizeOf 19 = .ok (.iconst 2, 1) := by decide +kernel
theorem dX9_sizeOf_20 : decode cX9_sizeOf 20 = .ok (.if_icmp .eq 8, 3) := by decide +kernel
theorem dX9_sizeOf_23 : decode cX9_sizeOf 23 = .ok (.iload_n 2, 1) := by decide +kernel
theorem dX9_sizeOf_24 : decode cX9_sizeOf 24 = .ok (.iconst 4, 1) := by decide +kernel
theorem dX9_sizeOf_25 : decode cX9_sizeOf 25 = .ok (.if_icmp .ne 19, 3) := by decide +kernel
theorem dX9_sizeOf_28 : decode cX9_sizeOf 28 = .ok (.aload_n 0, 1) := by decide +kernel
theorem dX9_sizeOf_29 : decode cX9_sizeOf 29 = .ok (.iload_n 2, 1) := by decide +kernel
theorem dX9_sizeOf_30 : decode cX9_sizeOf 30 = .ok (.iconst 2, 1) := by decide +kernel
theorem dX9_sizeOf_31 : decode cX9_sizeOf 31 = .ok (.if_icmp .ne 8, 3) := by decide +kernel
theorem dX9_sizeOf_34 : decode cX9_sizeOf 34 = .ok (.bipush 12, 2) := by decide +kernel
theorem dX9_sizeOf_36 : decode cX9_sizeOf 36 = .ok (.goto 5, 3) := by decide +kernel
theorem dX9_sizeOf_39 : decode cX9_sizeOf 39 = .ok (.bipush 14, 2) := by decide +kernel
theorem dX9_sizeOf_41 : decode cX9_sizeOf 41 = .ok (.invokevirtual 282, 3) := by decide +kernel
theorem dX9_sizeOf_44 : decode cX9_sizeOf 44 = .ok (.aload_n 0, 1) := by decide +kernel
theorem dX9_sizeOf_45 : decode cX9_sizeOf 45 = .ok (.bipush 11, 2) := by decide +kernel
theorem dX9_sizeOf_47 : decode cX9_sizeOf 47 = .ok (.invokevirtual 282, 3) := by decide +kernel
theorem dX9_sizeOf_50 : decode cX9_sizeOf 50 = .ok (.aload_n 0, 1) := by decide +kernel
theorem dX9_sizeOf_51 : decode cX9_sizeOf 51 = .ok (.iload_n 1, 1) := by decide +kernel
theorem dX9_sizeOf_52 : decode cX9_sizeOf 52 = .ok (.invokevirtual 285, 3) := by decide +kernel
theorem dX9_sizeOf_55 : decode cX9_sizeOf 55 = .ok (.istore_n 3, 1) := by decide +kernel
theorem dX9_sizeOf_56 : decode cX9_sizeOf 56 = .ok (.iload_n 3, 1) := by decide +kernel
theorem dX9_sizeOf_57 : decode cX9_sizeOf 57 = .ok (.aload_n 0, 1) := by decide +kernel
theorem dX9_sizeOf_58 : decode cX9_sizeOf 58 = .ok (.iload_n 1, 1) := by decide +kernel
theorem dX9_sizeOf_59 : decode cX9_sizeOf 59 = .ok (.invokevirtual 291, 3) := by decide +kernel
theorem dX9_sizeOf_62 : decode cX9_sizeOf 62 = .ok (.iadd, 1) := by decide +kernel
theorem dX9_sizeOf_63 : decode cX9_sizeOf 63 = .ok (.istore_n 3, 1) := by decide +kernel
theorem dX9_sizeOf_64 : decode cX9_sizeOf 64 = .ok (.iload_n 2, 1) := by decide +kernel
theorem dX9_sizeOf_65 : decode cX9_sizeOf 65 = .ok (.iconst 2, 1) := by decide +kernel
theorem dX9_sizeOf_66 : decode cX9_sizeOf 66 = .ok (.if_icmp .ne 8, 3) := by decide +kernel
theorem dX9_sizeOf_69 : decode cX9_sizeOf 69 = .ok (.iload_n 3, 1) := by decide +kernel
theorem dX9_sizeOf_70 : decode cX9_sizeOf 70 = .ok (.ineg, 1) := by decide +kernel
theorem dX9_sizeOf_71 : decode cX9_sizeOf 71 = .ok (.goto 15, 3) := by decide +kernel
theorem dX9_sizeOf_74 : decode cX9_sizeOf 74 = .ok (.iload_n 2, 1) := by decide +kernel
theorem dX9_sizeOf_75 : decode cX9_sizeOf 75 = .ok (.iconst 4, 1) := by decide +kernel
theorem dX9_sizeOf_76 : decode cX9_sizeOf 76 = .ok (.if_icmp .ne 9, 3) := by decide +kernel
theorem dX9_sizeOf_79 : decode cX9_sizeOf 79 = .ok (.iconst 2, 1) := by decide +kernel
theorem dX9_sizeOf_80 : decode cX9_sizeOf 80 = .ok (.iload_n 3, 1) := by decide +kernel
theorem dX9_sizeOf_81 : decode cX9_sizeOf 81 = .ok (.imul, 1) := by decide +kernel
theorem dX9_sizeOf_82 : decode cX9_sizeOf 82 = .ok (.goto 4, 3) := by decide +kernel
theorem dX9_sizeOf_85 : decode cX9_sizeOf 85 = .ok (.iload_n 3, 1) := by decide +kernel
theorem dX9_sizeOf_86 : decode cX9_sizeOf 86 = .ok (.ireturn, 1) := by decide +kernel
set_option maxRecDepth 20000 in
theorem ggX9_ask_X9_isCoin : GoodIn wsX9_ask wsX9_isCoin := goodIn_r _ [8, 9, 10, 11, 7, 12, 42, 43, 44, 45, 46, 47, 48, 49, 50, 51, 52, 53, 54, 55, 56, 57, 58, 59, 60, 61, 62, 63, 64, 65, 66, 67] (by decide +kernel) (by decide +kernel)
set_option maxRecDepth 20000 in
theorem gX9_ask_X9_isCoin : GoodIn wsX9_ask (wsV RX9 204 RX9 yX9_isCoin wsX9_isCoin) := goodIn_app (goodIn_of _ (by decide +kernel)) ggX9_ask_X9_isCoin
set_option maxRecDepth 20000 in
theorem ggX9_ask_X9_in : GoodIn wsX9_ask wsX9_in := goodIn_r _ [12] (by decide +kernel) (by decide +kernel)
set_option maxRecDepth 20000 in
theorem gX9_ask_X9_in : GoodIn wsX9_ask (va_wsS RX9 57 yX9_in wsX9_in) := goodIn_app (goodIn_of _ (by decide +kernel)) ggX9_ask_X9_in
set_option maxRecDepth 20000 in
theorem ggX9_ask_X9_sizeOf : GoodIn wsX9_ask wsX9_sizeOf := goodIn_r _ [16, 17, 18, 19, 7, 20, 9, 21, 22, 23, 24, 25, 26, 27, 28, 3, 29, 30, 31, 32, 33, 34, 35, 36, 37, 38, 39, 40, 41, 42, 43, 44, 45, 46, 47, 48, 49, 50, 51, 52, 53, 54, 55, 56, 57, 58, 59, 60, 61, 62, 63, 64, 65, 66, 67] (by decide +kernel) (by decide +kernel)
set_option maxRecDepth 20000 in
theorem gX9_ask_X9_sizeOf : GoodIn wsX9_ask (wsV RX9 294 RX9 yX9_sizeOf wsX9_sizeOf) := goodIn_app (goodIn_of _ (by decide +kernel)) ggX9_ask_X9_sizeOf
set_option maxRecDepth 20000 in
theorem ggX9_ask_X9_markOf : GoodIn wsX9_ask wsX9_markOf := goodIn_r _ [37, 17, 18, 19, 7, 20, 9, 25, 26, 27, 28, 3, 29, 21, 22, 23, 24, 30, 31, 32, 33, 38, 39, 40, 41, 42, 43, 44, 45, 46, 47, 48, 49, 50, 51, 52, 53, 54, 55, 56, 57, 58, 59, 60, 61, 62, 63, 64, 65, 66, 67] (by decide +kernel) (by decide +kernel)
set_option maxRecDepth 20000 in
theorem gX9_ask_X9_markOf : GoodIn wsX9_ask (wsV RX9 291 RX9 yX9_markOf wsX9_markOf) := goodIn_app (goodIn_of _ (by decide +kernel)) ggX9_ask_X9_markOf
theorem dX9_ask_0 : decode cX9_ask 0 = .ok (.aload_n 0, 1) := by decide +kernel
theorem dX9_ask_1 : decode cX9_ask 1 = .ok (.iconst 0, 1) := by decide +kernel
theorem dX9_ask_2 : decode cX9_ask 2 = .ok (.putfield 47, 3) := by decide +kernel
theorem dX9_ask_5 : decode cX9_ask 5 = .ok (.aload_n 0, 1) := by decide +kernel
theorem dX9_ask_6 : decode cX9_ask 6 = .ok (.iload_n 1, 1) := by decide +kernel
theorem dX9_ask_7 : decode cX9_ask 7 = .ok (.invokevirtual 204, 3) := by decide +kernel
theorem dX9_ask_10 : decode cX9_ask 10 = .ok (.ifCond .eq 13, 3) := by decide +kernel
theorem dX9_ask_13 : decode cX9_ask 13 = .ok (.iload_n 2, 1) := by decide +kernel
theorem dX9_ask_14 : decode cX9_ask 14 = .ok (.i2l, 1) := by decide +kernel
theorem dX9_ask_15 : decode cX9_ask 15 = .ok (.lconst 0, 1) := by decide +kernel
theorem dX9_ask_16 : decode cX9_ask 16 = .ok (.lconst 1, 1) := by decide +kernel
theorem dX9_ask_17 : decode cX9_ask 17 = .ok (.invokestatic 57, 3) := by decide +kernel
theorem dX9_ask_20 : decode cX9_ask 20 = .ok (.ifCond .ne 6, 3) := by decide +kernel
theorem dX9_ask_23 : decode cX9_ask 23 = .ok (.ldc 67, 2) := by decide +kernel
theorem dX9_ask_25 : decode cX9_ask 25 = .ok (.ireturn, 1) := by decide +kernel
theorem dX9_ask_26 : decode cX9_ask 26 = .ok (.aload_n 0, 1) := by decide +kernel
theorem dX9_ask_27 : decode cX9_ask 27 = .ok (.iconst 0, 1) := by decide +kernel
theorem dX9_ask_28 : decode cX9_ask 28 = .ok (.putfield 279, 3) := by decide +kernel
theorem dX9_ask_31 : decode cX9_ask 31 = .ok (.iload_n 2, 1) := by decide +kernel
theorem dX9_ask_32 : decode cX9_ask 32 = .ok (.ifCond .ne 11, 3) := by decide +kernel
theorem dX9_ask_35 : decode cX9_ask 35 = .ok (.aload_n 0, 1) := by decide +kernel
theorem dX9_ask_36 : decode cX9_ask 36 = .ok (.iload_n 1, 1) := by decide +kernel
theorem dX9_ask_37 : decode cX9_ask 37 = .ok (.invokevirtual 294, 3) := by decide +kernel
theorem dX9_ask_40 : decode cX9_ask 40 = .ok (.goto 8, 3) := by decide +kernel
theorem dX9_ask_43 : decode cX9_ask 43 = .ok (.aload_n 0, 1) := by decide +kernel
theorem dX9_ask_44 : decode cX9_ask 44 = .ok (.iload_n 1, 1) := by decide +kernel
theorem dX9_ask_45 : decode cX9_ask 45 = .ok (.invokevirtual 291, 3) := by decide +kernel
theorem dX9_ask_48 : decode cX9_ask 48 = .ok (.ireturn, 1) := by decide +kernel
set_option maxRecDepth 20000 in
theorem ggX9_trace_X9_in : GoodIn wsX9_trace wsX9_in := goodIn_r _ [8] (by decide +kernel) (by decide +kernel)
set_option maxRecDepth 20000 in
theorem gX9_trace_X9_in : GoodIn wsX9_trace (va_wsS RX9 57 yX9_in wsX9_in) := goodIn_app (goodIn_of _ (by decide +kernel)) ggX9_trace_X9_in
theorem dX9_trace_0 : decode cX9_trace 0 = .ok (.aload_n 0, 1) := by decide +kernel
theorem dX9_trace_1 : decode cX9_trace 1 = .ok (.iconst 0, 1) := by decide +kernel
theorem dX9_trace_2 : decode cX9_trace 2 = .ok (.putfield 47, 3) := by decide +kernel
theorem dX9_trace_5 : decode cX9_trace 5 = .ok (.iload_n 1, 1) := by decide +kernel
theorem dX9_trace_6 : decode cX9_trace 6 = .ok (.i2l, 1) := by decide +kernel
theorem dX9_trace_7 : decode cX9_trace 7 = .ok (.lconst 0, 1) := by decide +kernel
theorem dX9_trace_8 : decode cX9_trace 8 = .ok (.aload_n 0, 1) := by decide +kernel
theorem dX9_trace_9 : decode cX9_trace 9 = .ok (.getfield 279, 3) := by decide +kernel
theorem dX9_trace_12 : decode cX9_trace 12 = .ok (.iconst 1, 1) := by decide +kernel
theorem dX9_trace_13 : decode cX9_trace 13 = .ok (.isub, 1) := by decide +kernel
theorem dX9_trace_14 : decode cX9_trace 14 = .ok (.i2l, 1) := by decide +kernel
theorem dX9_trace_15 : decode cX9_trace 15 = .ok (.invokestatic 57, 3) := by decide +kernel
theorem dX9_trace_18 : decode cX9_trace 18 = .ok (.ifCond .eq 12, 3) := by decide +kernel
theorem dX9_trace_21 : decode cX9_trace 21 = .ok (.aload_n 0, 1) := by decide +kernel
theorem dX9_trace_22 : decode cX9_trace 22 = .ok (.getfield 44, 3) := by decide +kernel
theorem dX9_trace_25 : decode cX9_trace 25 = .ok (.iload_n 1, 1) := by decide +kernel
theorem dX9_trace_26 : decode cX9_trace 26 = .ok (.iaload, 1) := by decide +kernel
theorem dX9_trace_27 : decode cX9_trace 27 = .ok (.goto 5, 3) := by decide +kernel
theorem dX9_trace_30 : decode cX9_trace 30 = .ok (.ldc 83, 2) := by decide +kernel
theorem dX9_trace_32 : decode cX9_trace 32 = .ok (.ireturn, 1) := by decide +kernel
set_option maxRecDepth 20000 in
theorem ggX9_count_X9_of : GoodIn wsX9_count wsX9_of := goodIn_r _ [11, 3, 12, 13, 14, 15, 16, 17, 18, 19, 20, 21, 22, 23, 24, 25, 26, 27, 28, 29, 30, 31, 32, 33, 34, 35, 36, 37] (by decide +kernel) (by decide +kernel)
set_option maxRecDepth 20000 in
theorem gX9_count_X9_of : GoodIn wsX9_count (wsV RX9 189 RX9 yX9_of wsX9_of) := goodIn_app (goodIn_of _ (by decide +kernel)) ggX9_count_X9_of
theorem dX9_count_0 : decode cX9_count 0 = .ok (.aload_n 0, 1) := by decide +kernel
theorem dX9_count_1 : decode cX9_count 1 = .ok (.iconst 0, 1) := by decide +kernel
theorem dX9_count_2 : decode cX9_count 2 = .ok (.putfield 47, 3) := by decide +kernel
theorem dX9_count_5 : decode cX9_count 5 = .ok (.iconst 0, 1) := by decide +kernel
theorem dX9_count_6 : decode cX9_count 6 = .ok (.istore_n 2, 1) := by decide +kernel
theorem dX9_count_7 : decode cX9_count 7 = .ok (.iload_n 1, 1) := by decide +kernel
theorem dX9_count_8 : decode cX9_count 8 = .ok (.tableswitch 164 0 7 #[48, 81, 88, 95, 102, 107, 107, 159], 48) := by decide +kernel
theorem dX9_count_56 : decode cX9_count 56 = .ok (.iconst 0, 1) := by decide +kernel
theorem dX9_count_57 : decode cX9_count 57 = .ok (.istore_n 3, 1) := by decide +kernel
theorem dX9_count_58 : decode cX9_count 58 = .ok (.iload_n 3, 1) := by decide +kernel
theorem dX9_count_59 : decode cX9_count 59 = .ok (.bipush 8, 2) := by decide +kernel
theorem dX9_count_61 : decode cX9_count 61 = .ok (.if_icmp .ge 26, 3) := by decide +kernel
theorem dX9_count_64 : decode cX9_count 64 = .ok (.iload_n 2, 1) := by decide +kernel
theorem dX9_count_65 : decode cX9_count 65 = .ok (.aload_n 0, 1) := by decide +kernel
theorem dX9_count_66 : decode cX9_count 66 = .ok (.getfield 7, 3) := by decide +kernel
theorem dX9_count_69 : decode cX9_count 69 = .ok (.iload_n 3, 1) := by decide +kernel
theorem dX9_count_70 : decode cX9_count 70 = .ok (.iaload, 1) := by decide +kernel
theorem dX9_count_71 : decode cX9_count 71 = .ok (.ifCond .lt 7, 3) := by decide +kernel
theorem dX9_count_74 : decode cX9_count 74 = .ok (.iconst 1, 1) := by decide +kernel
theorem dX9_count_75 : decode cX9_count 75 = .ok (.goto 4, 3) := by decide +kernel
theorem dX9_count_78 : decode cX9_count 78 = .ok (.iconst 0, 1) := by decide +kernel
theorem dX9_count_79 : decode cX9_count 79 = .ok (.iadd, 1) := by decide +kernel
theorem dX9_count_80 : decode cX9_count 80 = .ok (.istore_n 2, 1) := by decide +kernel
theorem dX9_count_81 : decode cX9_count 81 = .ok (.iinc 3 1, 3) := by decide +kernel
theorem dX9_count_84 : decode cX9_count 84 = .ok (.goto (-26), 3) := by decide +kernel
theorem dX9_count_87 : decode cX9_count 87 = .ok (.iload_n 2, 1) := by decide +kernel
theorem dX9_count_88 : decode cX9_count 88 = .ok (.ireturn, 1) := by decide +kernel
theorem dX9_count_89 : decode cX9_count 89 = .ok (.aload_n 0, 1) := by decide +kernel
theorem dX9_count_90 : decode cX9_count 90 = .ok (.getfield 19, 3) := by decide +kernel
theorem dX9_count_93 : decode cX9_count 93 = .ok (.iconst 2, 1) := by decide +kernel
theorem dX9_count_94 : decode cX9_count 94 = .ok (.iaload, 1) := by decide +kernel
theorem dX9_count_95 : decode cX9_count 95 = .ok (.ireturn, 1) := by decide +kernel
theorem dX9_count_96 : decode cX9_count 96 = .ok (.aload_n 0, 1) := by decide +kernel
theorem dX9_count_97 : decode cX9_count 97 = .ok (.getfield 19, 3) := by decide +kernel
theorem dX9_count_100 : decode cX9_count 100 = .ok (.iconst 3, 1) := by decide +kernel
theorem dX9_count_101 : decode cX9_count 101 = .ok (.iaload, 1) := by decide +kernel
theorem dX9_count_102 : decode cX9_count 102 = .ok (.ireturn, 1) := by decide +kernel
theorem dX9_count_103 : decode cX9_count 103 = .ok (.aload_n 0, 1) := by decide +kernel
theorem dX9_count_104 : decode cX9_count 104 = .ok (.getfield 19, 3) := by decide +kernel
theorem dX9_count_107 : decode cX9_count 107 = .ok (.iconst 4, 1) := by decide +kernel
theorem dX9_count_108 : decode cX9_count 108 = .ok (.iaload, 1) := by decide +kernel
theorem dX9_count_109 : decode cX9_count 109 = .ok (.ireturn, 1) := by decide +kernel
theorem dX9_count_110 : decode cX9_count 110 = .ok (.aload_n 0, 1) := by decide +kernel
theorem dX9_count_111 : decode cX9_count 111 = .ok (.getfield 183, 3) := by decide +kernel
theorem dX9_count_114 : decode cX9_count 114 = .ok (.ireturn, 1) := by decide +kernel
theorem dX9_count_115 : decode cX9_count 115 = .ok (.iconst 0, 1) := by decide +kernel
theorem dX9_count_116 : decode cX9_count 116 = .ok (.istore_n 3, 1) := by decide +kernel
theorem dX9_count_117 : decode cX9_count 117 = .ok (.iload_n 3, 1) := by decide +kernel
theorem dX9_count_118 : decode cX9_count 118 = .ok (.aload_n 0, 1) := by decide +kernel
theorem dX9_count_119 : decode cX9_count 119 = .ok (.getfield 19, 3) := by decide +kernel
theorem dX9_count_122 : decode cX9_count 122 = .ok (.iconst 3, 1) := by decide +kernel
theorem dX9_count_123 : decode cX9_count 123 = .ok (.iaload, 1) := by decide +kernel
theorem dX9_count_124 : decode cX9_count 124 = .ok (.if_icmp .ge 41, 3) := by decide +kernel
theorem dX9_count_127 : decode cX9_count 127 = .ok (.iload_n 2, 1) := by decide +kernel
theorem dX9_count_128 : decode cX9_count 128 = .ok (.iload_n 1, 1) := by decide +kernel
theorem dX9_count_129 : decode cX9_count 129 = .ok (.iconst 5, 1) := by decide +kernel
theorem dX9_count_130 : decode cX9_count 130 = .ok (.if_icmp .ne 12, 3) := by decide +kernel
theorem dX9_count_133 : decode cX9_count 133 = .ok (.aload_n 0, 1) := by decide +kernel
theorem dX9_count_134 : decode cX9_count 134 = .ok (.iload_n 3, 1) := by decide +kernel
theorem dX9_count_135 : decode cX9_count 135 = .ok (.iconst 5, 1) := by decide +kernel
theorem dX9_count_136 : decode cX9_count 136 = .ok (.invokevirtual 189, 3) := by decide +kernel
theorem dX9_count_139 : decode cX9_count 139 = .ok (.goto 18, 3) := by decide +kernel
theorem dX9_count_142 : decode cX9_count 142 = .ok (.aload_n 0, 1) := by decide +kernel
theorem dX9_count_143 : decode cX9_count 143 = .ok (.iload_n 3, 1) := by decide +kernel
theorem dX9_count_144 : decode cX9_count 144 = .ok (.iconst 3, 1) := by decide +kernel
theorem dX9_count_145 : decode cX9_count 145 = .ok (.invokevirtual 189, 3) := by decide +kernel
theorem dX9_count_148 : decode cX9_count 148 = .ok (.iconst 3, 1) := by decide +kernel
theorem dX9_count_149 : decode cX9_count 149 = .ok (.if_icmp .ne 7, 3) := by decide +kernel
theorem dX9_count_152 : decode cX9_count 152 = .ok (.iconst 1, 1) := by decide +kernel
theorem dX9_count_153 : decode cX9_count 153 = .ok (.goto 4, 3) := by decide +kernel
theorem dX9_count_156 : decode cX9_count 156 = .ok (.iconst 0, 1) := by decide +kernel
theorem dX9_count_157 : decode cX9_count 157 = .ok (.iadd, 1) := by decide +kernel
theorem dX9_count_158 : decode cX9_count 158 = .ok (.istore_n 2, 1) := by decide +kernel
theorem dX9_count_159 : decode cX9_count 159 = .ok (.iinc 3 1, 3) := by decide +kernel
theorem dX9_count_162 : decode cX9_count 162 = .ok (.goto (-45), 3) := by decide +kernel
theorem dX9_count_165 : decode cX9_count 165 = .ok (.iload_n 2, 1) := by decide +kernel
theorem dX9_count_166 : decode cX9_count 166 = .ok (.ireturn, 1) := by decide +kernel
theorem dX9_count_167 : decode cX9_count 167 = .ok (.aload_n 0, 1) := by decide +kernel
theorem dX9_count_168 : decode cX9_count 168 = .ok (.getfield 74, 3) := by decide +kernel
theorem dX9_count_171 : decode cX9_count 171 = .ok (.ireturn, 1) := by decide +kernel
theorem dX9_count_172 : decode cX9_count 172 = .ok (.ldc 67, 2) := by decide +kernel
theorem dX9_count_174 : decode cX9_count 174 = .ok (.ireturn, 1) := by decide +kernel
theorem dX9_status_0 : decode cX9_status 0 = .ok (.aload_n 0, 1) := by decide +kernel
theorem dX9_status_1 : decode cX9_status 1 = .ok (.iconst 0, 1) := by decide +kernel
theorem dX9_status_2 : decode cX9_status 2 = .ok (.putfield 47, 3) := by decide +kernel
theorem dX9_status_5 : decode cX9_status 5 = .ok (.aload_n 0, 1) := by decide +kernel
theorem dX9_status_6 : decode cX9_status 6 = .ok (.getfield 51, 3) := by decide +kernel
theorem dX9_status_9 : decode cX9_status 9 = .ok (.ireturn, 1) := by decide +kernel
end
section
/-! my own rows: a contract whose answer and cells are given outright, its entry, its calls -/
/-- a call's end: the answer v, the world B, nothing else changed -/
def kq (v : Option Value) (B : State → Prop) (A : Nat → Prop) : Array Value → State → Outcome → State → Prop := fun _ st oc t => oc = .returned v ∧ B t ∧ va_F A st t
abbrev kB (D : va_G) (tys : List (ClassId × FieldType)) (A : Nat → Prop) (w1 : va_W) : State → Prop := fun t => va_P D vwCl w1 t.heap ∧ va_K D vwCl tys t ∧ va_D A w1
/-- the contract: from the cells w0 the method y at the arguments av answers v, and leaves the cells w1 -/
def KK (l : Launch) (D : va_G) (tys : List (ClassId × FieldType)) (y : MethodName) (ws : List Cond) (fr lo : Nat) (av : List Value) (w0 : va_W) (v : Option Value) (w1 : va_W) : Prop :=
  ∀ sz : Nat, Met l y ws { frames := fr, cells := 0, slots := 0, locals := lo } (va_Pc av (fun U => U.heap.size = sz ∧ va_P D vwCl w0 U.heap ∧ va_K D vwCl tys U ∧ va_D (fun _ => True) w0)) (kq v (kB D tys (va_A w0 sz) w1) (va_A w0 sz)) 0 0 (va_A w0 sz)
section KE
variable {l : Launch} {D : va_G} {tys : List (ClassId × FieldType)} {y : MethodName} {ws ws' : List Cond} {fr lo maxL : Nat} {cc : ByteArray} {av : List Value} {w0 w1 : va_W} {own : String}
theorem KK.ofI {v : Int32} (hy : plainName y.cls = true) (ho : y.cls = own) (hw : ws = Cond.code y cc maxL (some .int) :: ws') (hle : (lg_sl av).length ≤ maxL)
    (body : ∀ (p : Program) (e : Env) (s : State) (m : MethodId) (args : Array Value) (below : List Frame) (meth : Method) (c : Code) (R : Room) (Q : State → Prop) (A : Nat → Prop) (ls : Array Slot), CallFix p m c cc maxL s args ws own → R.frames = fr → R.locals = lo → va_K D vwCl tys s → (∀ q, s.heap.size ≤ q → A q) → va_P D vwCl w0 s.heap → va_D A w0 → va_S A s.heap s.heap [] → lv_has ls maxL (lv_args 0 av) →
      (∀ (pc : Nat) (ls : Array Slot) (H : Heap) (locs : List Loc), va_P D vwCl w1 H → va_D A w1 → va_S A s.heap H locs → decode cc pc = .ok (.ireturn, 1) → W p l e R s m args below meth c H locs 0 0 Q (F0 m pc ls [.int v])) →
      W p l e R s m args below meth c s.heap [] 0 0 Q (F0 m 0 ls [])) : KK l D tys y ws fr lo av w0 (some (.int v)) w1 := by
  intro sz
  refine Met.ofW (cc := cc) (maxL := maxL) (ret := some .int) hy hw ?_
  intro p e s m args below meth c s₁ B hml hv
  obtain ⟨rfl, hsz, hP, hK, hD0⟩ := hv
  have hts := atoms_spec (ws := ws) B.pre
  have hown : s.vm.findClass own = some m.cls := by rw [← ho]; exact findClass_of_methodNamed B.named
  subst hsz
  have hr := B.returns
  have hlocks := B.notSynchronized
  rw [lg_entry_eq]
  exact body p e s m av.toArray below meth c _ _ (va_A w0 s.heap.size) _ ⟨B.exec, B.bytes, hml, hown, hts⟩ rfl rfl hK (fun q h => Or.inr h) hP hD0.self va_S.rf (lv_entry av hle) (fun pc ls H locs hP1 hD1 hS1 hdg => W.iret B.exec B.bytes hr (fun t ht hW => ⟨rfl, ⟨by rw [ht]; exact hP1, va_K.moved hW.alike hK, hD1⟩, hS1.F ht⟩) hS1.2.2 hdg)
theorem KK.ofZ {v : Int32} (hy : plainName y.cls = true) (ho : y.cls = own) (hw : ws = Cond.code y cc maxL (some .boolean) :: ws') (hle : (lg_sl av).length ≤ maxL)
    (body : ∀ (p : Program) (e : Env) (s : State) (m : MethodId) (args : Array Value) (below : List Frame) (meth : Method) (c : Code) (R : Room) (Q : State → Prop) (A : Nat → Prop) (ls : Array Slot), CallFix p m c cc maxL s args ws own → R.frames = fr → R.locals = lo → va_K D vwCl tys s → (∀ q, s.heap.size ≤ q → A q) → va_P D vwCl w0 s.heap → va_D A w0 → va_S A s.heap s.heap [] → lv_has ls maxL (lv_args 0 av) →
      (∀ (pc : Nat) (ls : Array Slot) (H : Heap) (locs : List Loc), va_P D vwCl w1 H → va_D A w1 → va_S A s.heap H locs → decode cc pc = .ok (.ireturn, 1) → narrow .boolean (.int v) = .int v → W p l e R s m args below meth c H locs 0 0 Q (F0 m pc ls [.int v])) →
      W p l e R s m args below meth c s.heap [] 0 0 Q (F0 m 0 ls [])) : KK l D tys y ws fr lo av w0 (some (.int v)) w1 := by
  intro sz
  refine Met.ofW (cc := cc) (maxL := maxL) (ret := some .boolean) hy hw ?_
  intro p e s m args below meth c s₁ B hml hv
  obtain ⟨rfl, hsz, hP, hK, hD0⟩ := hv
  have hts := atoms_spec (ws := ws) B.pre
  have hown : s.vm.findClass own = some m.cls := by rw [← ho]; exact findClass_of_methodNamed B.named
  subst hsz
  have hr := B.returns
  have hlocks := B.notSynchronized
  rw [lg_entry_eq]
  exact body p e s m av.toArray below meth c _ _ (va_A w0 s.heap.size) _ ⟨B.exec, B.bytes, hml, hown, hts⟩ rfl rfl hK (fun q h => Or.inr h) hP hD0.self va_S.rf (lv_entry av hle) (fun pc ls H locs hP1 hD1 hS1 hdg hn => W.zret B.exec B.bytes hr hn (fun t ht hW => ⟨rfl, ⟨by rw [ht]; exact hP1, va_K.moved hW.alike hK, hD1⟩, hS1.F ht⟩) hS1.2.2 hdg)
theorem KK.ofL {v : Int64} (hy : plainName y.cls = true) (ho : y.cls = own) (hw : ws = Cond.code y cc maxL (some .long) :: ws') (hle : (lg_sl av).length ≤ maxL)
    (body : ∀ (p : Program) (e : Env) (s : State) (m : MethodId) (args : Array Value) (below : List Frame) (meth : Method) (c : Code) (R : Room) (Q : State → Prop) (A : Nat → Prop) (ls : Array Slot), CallFix p m c cc maxL s args ws own → R.frames = fr → R.locals = lo → va_K D vwCl tys s → (∀ q, s.heap.size ≤ q → A q) → va_P D vwCl w0 s.heap → va_D A w0 → va_S A s.heap s.heap [] → lv_has ls maxL (lv_args 0 av) →
      (∀ (pc : Nat) (ls : Array Slot) (H : Heap) (locs : List Loc), va_P D vwCl w1 H → va_D A w1 → va_S A s.heap H locs → decode cc pc = .ok (.lreturn, 1) → W p l e R s m args below meth c H locs 0 0 Q (F0 m pc ls [.long v])) →
      W p l e R s m args below meth c s.heap [] 0 0 Q (F0 m 0 ls [])) : KK l D tys y ws fr lo av w0 (some (.long v)) w1 := by
  intro sz
  refine Met.ofW (cc := cc) (maxL := maxL) (ret := some .long) hy hw ?_
  intro p e s m args below meth c s₁ B hml hv
  obtain ⟨rfl, hsz, hP, hK, hD0⟩ := hv
  have hts := atoms_spec (ws := ws) B.pre
  have hown : s.vm.findClass own = some m.cls := by rw [← ho]; exact findClass_of_methodNamed B.named
  subst hsz
  have hr := B.returns
  have hlocks := B.notSynchronized
  rw [lg_entry_eq]
  exact body p e s m av.toArray below meth c _ _ (va_A w0 s.heap.size) _ ⟨B.exec, B.bytes, hml, hown, hts⟩ rfl rfl hK (fun q h => Or.inr h) hP hD0.self va_S.rf (lv_entry av hle) (fun pc ls H locs hP1 hD1 hS1 hdg => W.lret B.exec B.bytes hr (fun t ht hW => ⟨rfl, ⟨by rw [ht]; exact hP1, va_K.moved hW.alike hK, hD1⟩, hS1.F ht⟩) hS1.2.2 hdg)
theorem KK.ofV (hy : plainName y.cls = true) (ho : y.cls = own) (hw : ws = Cond.code y cc maxL none :: ws') (hle : (lg_sl av).length ≤ maxL)
    (body : ∀ (p : Program) (e : Env) (s : State) (m : MethodId) (args : Array Value) (below : List Frame) (meth : Method) (c : Code) (R : Room) (Q : State → Prop) (A : Nat → Prop) (ls : Array Slot), CallFix p m c cc maxL s args ws own → R.frames = fr → R.locals = lo → va_K D vwCl tys s → (∀ q, s.heap.size ≤ q → A q) → va_P D vwCl w0 s.heap → va_D A w0 → va_S A s.heap s.heap [] → lv_has ls maxL (lv_args 0 av) →
      (∀ (pc : Nat) (ls : Array Slot) (H : Heap) (locs : List Loc), va_P D vwCl w1 H → va_D A w1 → va_S A s.heap H locs → decode cc pc = .ok (.return_, 1) → W p l e R s m args below meth c H locs 0 0 Q (F0 m pc ls [])) →
      W p l e R s m args below meth c s.heap [] 0 0 Q (F0 m 0 ls [])) : KK l D tys y ws fr lo av w0 none w1 := by
  intro sz
  refine Met.ofW (cc := cc) (maxL := maxL) (ret := none) hy hw ?_
  intro p e s m args below meth c s₁ B hml hv
  obtain ⟨rfl, hsz, hP, hK, hD0⟩ := hv
  have hts := atoms_spec (ws := ws) B.pre
  have hown : s.vm.findClass own = some m.cls := by rw [← ho]; exact findClass_of_methodNamed B.named
  subst hsz
  have hr := B.returns
  have hlocks := B.notSynchronized
  rw [lg_entry_eq]
  exact body p e s m av.toArray below meth c _ _ (va_A w0 s.heap.size) _ ⟨B.exec, B.bytes, hml, hown, hts⟩ rfl rfl hK (fun q h => Or.inr h) hP hD0.self va_S.rf (lv_entry av hle) (fun pc ls H locs hP1 hD1 hS1 hdg => W.vret B.exec B.bytes hr (fun t ht hW => ⟨rfl, ⟨by rw [ht]; exact hP1, va_K.moved hW.alike hK, hD1⟩, hS1.F ht⟩) hS1.2.2 hdg)
end KE
section KC
variable {p : Program} {l : Launch} {e : Env} {R : Room} {s : State} {m : MethodId} {args : Array Value} {below : List Frame} {meth : Method} {c : Code} {H : Heap} {locs : List Loc} {Q : State → Prop}
variable {cc : ByteArray} {pc : Nat} {ls : Array Slot} {rest st : List Value} {D : va_G} {A : Nat → Prop} {tys : List (ClassId × FieldType)} {H0 : Heap} {Ts ws ws' : List Cond} {own C : String} {index maxL nL fr lo Rf Rl : Nat} {y : MethodName} {bytes : ByteArray} {ret : Option FieldType} {v : Option Value} {w0 w1 : va_W} {lv : List (Nat × Value)}
/-- behind a call: the machine as the contract leaves it -/
theorem kc_go {Av : Array Value} (hr : va_Run p l e R s m args below meth c H locs 0 0 0 0 (F0 m pc ls st) rest (kq v (kB D tys (va_A w0 H.size) w1) (va_A w0 H.size) Av) (va_A w0 H.size)) (hS : va_S A H0 H locs) (hF : ∀ q, va_A w0 H.size q → A q)
    (kk : ∀ (H1 : Heap) (locs1 : List Loc), va_P D vwCl w1 H1 → va_D A w1 → va_S A H0 H1 locs1 → W p l e R s m args below meth c H1 locs1 0 0 Q (F0 m (pc + 3) ls (v.toList ++ rest))) : W p l e R s m args below meth c H locs 0 0 Q (F0 m pc ls st) := by
  intro T hT X
  obtain ⟨v2, st₀, t, T', L, h0, X', hL, e1, e2, ⟨hv, ⟨hP1, hK1, hD1⟩, hz, hk⟩, st⟩ := hr T hT X
  cases hv
  rw [h0] at hz hk
  obtain ⟨t2, a1, b1⟩ := kk T'.heap (locs ++ L) (by rw [e1]; exact hP1) (hD1.weaken (fun k q _ h => hF q.1 h))
    ⟨Nat.le_trans hS.1 (by rw [e1]; exact hz), fun q h1 h2 => by rw [e1, hk q (Nat.lt_of_lt_of_le h1 hS.1) (fun z => h2 (hF q z))]; exact hS.2.1 q h1 h2, fun q hq => by
      rcases List.mem_append.mp hq with h | h
      · exact hS.2.2 q h
      · exact hF _ (hL q h)⟩ T' rfl X'
  exact ⟨t2, st t2 a1, b1⟩
theorem kF_all (hA : ∀ q, H0.size ≤ q → A q) (hD : va_D A w0) (hS : va_S A H0 H locs) : ∀ q, va_A w0 H.size q → A q := fun q h => by
  rcases h with ⟨k, e, h⟩ | h
  · exact hD.2 k (q, e) h
  · exact hA q (Nat.le_trans hS.1 h)
theorem kc_v {b ci q0 n : Nat} {qq : vw_C} {fs : List Value} (S : CallFix p m c cc nL s args Ts own) (hRf : R.frames = Rf) (hRl : R.locals = Rl) (hK : va_K D vwCl tys s) (hA : ∀ q, H0.size ≤ q → A q) (hP : va_P D vwCl w0 H) (hD : va_D A w0) (hS : va_S A H0 H locs) (hl : lv_has ls nL lv) (As rest : List Value)
    (hM : KK l D tys y ws fr lo (.ref b :: As) w0 v w1) (hT : GoodIn Ts (wsV own index C y ws)) (hw : ws = Cond.code y bytes maxL ret :: ws')
    (hd : y.cls = C ∧ y.cls ≠ "java/lang/invoke/MethodHandle" ∧ y.cls ≠ "java/lang/invoke/VarHandle" ∧ (parseMethodDescriptor y.desc).map (fun d => d.parameters.length) = some n) (hn : As.length = n) (hR : fr + 1 ≤ Rf ∧ 8 + (maxL + 11) + lo ≤ Rl)
    (hc : vwCl[ci]? = some qq) (hqC : qq.1 = C) (he : w0[q0]? = some (b, .inr (ci, fs))) (hstack : st = As.reverse ++ .ref b :: rest) (hst : (rest.map fun v => v.category).sum ≤ 8) (hdg : decode cc pc = .ok (.invokevirtual index, 3))
    (kk : ∀ (H1 : Heap) (locs1 : List Loc), va_P D vwCl w1 H1 → va_D A w1 → va_S A H0 H1 locs1 → W p l e R s m args below meth c H1 locs1 0 0 Q (F0 m (pc + 3) ls (v.toList ++ rest))) : W p l e R s m args below meth c H locs 0 0 Q (F0 m pc ls st) := by
  have hF := kF_all hA hD hS
  refine kc_go (va_runV (As := As) (rest := rest) S (hM H.size) (cwV n S.2.2.2.2 hT hw rfl rfl hd ⟨by rw [hRf]; exact hR.1, by rw [hRl]; exact hR.2⟩) ⟨fun a U g mk q => ?_, ?_, fun U hU hW => ⟨rfl, by rw [hU], by rw [hU]; exact hP, va_K.moved hW.alike hK, hD.weaken (fun _ _ _ _ => trivial)⟩⟩ rfl hn hl.1 hstack (lv_room hst) hdg ⟨Nat.zero_le _, Nat.zero_le _⟩) hS hF kk
  · obtain ⟨q0, q1, qP, qK, qD⟩ := q
    exact ⟨q0, q1, qP, va_K.moved (u := U) (U := U.calling g mk a) (Vm.Alike.refl U.vm) qK, qD⟩
  · rw [← hqC]; exact va_recv hK hP hc he
theorem kc_s {n : Nat} (S : CallFix p m c cc nL s args Ts own) (hRf : R.frames = Rf) (hRl : R.locals = Rl) (hK : va_K D vwCl tys s) (hA : ∀ q, H0.size ≤ q → A q) (hP : va_P D vwCl w0 H) (hD : va_D A w0) (hS : va_S A H0 H locs) (hl : lv_has ls nL lv) (As rest : List Value)
    (hM : KK l D tys y ws fr lo As w0 v w1) (hT : GoodIn Ts (va_wsS own index y ws)) (hw : ws = Cond.code y bytes maxL ret :: ws')
    (hd : y.cls ≠ "java/lang/invoke/MethodHandle" ∧ y.cls ≠ "java/lang/invoke/VarHandle" ∧ (parseMethodDescriptor y.desc).map (fun d => d.parameters.length) = some n) (hn : As.length = n) (hR : fr + 1 ≤ Rf ∧ 8 + (maxL + 11) + lo ≤ Rl)
    (hstack : st = As.reverse ++ rest) (hst : (rest.map fun v => v.category).sum ≤ 8) (hdg : decode cc pc = .ok (.invokestatic index, 3))
    (kk : ∀ (H1 : Heap) (locs1 : List Loc), va_P D vwCl w1 H1 → va_D A w1 → va_S A H0 H1 locs1 → W p l e R s m args below meth c H1 locs1 0 0 Q (F0 m (pc + 3) ls (v.toList ++ rest))) : W p l e R s m args below meth c H locs 0 0 Q (F0 m pc ls st) := by
  have hF := kF_all hA hD hS
  refine kc_go (va_runS (As := As) (rest := rest) S (hM H.size) (va_cwS n S.2.2.2.2 hT hw rfl rfl hd ⟨by rw [hRf]; exact hR.1, by rw [hRl]; exact hR.2⟩) ⟨fun a U g mk q => ?_, fun U hU hW => ⟨rfl, by rw [hU], by rw [hU]; exact hP, va_K.moved hW.alike hK, hD.weaken (fun _ _ _ _ => trivial)⟩⟩ rfl hn hl.1 hstack (lv_room hst) hdg ⟨Nat.zero_le _, Nat.zero_le _⟩) hS hF kk
  obtain ⟨q0, q1, qP, qK, qD⟩ := q
  exact ⟨q0, q1, qP, va_K.moved (u := U) (U := U.calling g mk a) (Vm.Alike.refl U.vm) qK, qD⟩
end KC
/-- a value gets a name -/
def nm {α β : Type} (e : α) (f : α → Option β) : Option β := f e
theorem nm_some {α β : Type} {e : α} {f : α → Option β} {r : β} (h : nm e f = some r) : ∃ x, x = e ∧ f x = some r := ⟨e, rfl, h⟩
theorem bi_some {α β : Type} {x : Option α} {f : α → Option β} {r : β} (h : x.bind f = some r) : ∃ a, x = some a ∧ f a = some r := by
  cases x with
  | none => cases h
  | some a => exact ⟨a, rfl, h⟩
def gd {β : Type} (c : Prop) [Decidable c] (x : Option β) : Option β := if c then x else none
theorem gd_some {β : Type} {c : Prop} [Decidable c] {x : Option β} {r : β} (h : gd c x = some r) : c ∧ x = some r := by
  unfold gd at h
  by_cases hc : c
  · rw [if_pos hc] at h; exact ⟨hc, h⟩
  · rw [if_neg hc] at h; cases h
theorem gd_t {β : Type} {c : Prop} [Decidable c] {x : Option β} (h : c) : gd c x = x := if_pos h
end
section
/-! the state of an object as numbers: its int fields by their slots, its arrays by the slots of the fields that hold them -/
def MS : Type := (Nat → Int32) × (Nat → Nat → Int32)
def setF (σ : MS) (k : Nat) (x : Int32) : MS := (va_up σ.1 k x, σ.2)
def setA (σ : MS) (k i : Nat) (x : Int32) : MS := (σ.1, va_up σ.2 k (upd (σ.2 k) i x))
theorem nm_at {α β : Type} {e x : α} {f : α → Option β} {r : β} (h : x = e) (hf : nm e f = some r) : f x = some r := by subst h; exact hf
def bd2 {α β γ : Type} (x : Option (α × β)) (f : α → β → Option γ) : Option γ := Option.bind x (fun q => f q.1 q.2)
theorem bd2_some {α β γ : Type} {x : Option (α × β)} {f : α → β → Option γ} {r : γ} (h : bd2 x f = some r) : ∃ a b, x = some (a, b) ∧ f a b = some r := by
  cases x with
  | none => cases h
  | some q => exact ⟨q.1, q.2, rfl, h⟩
/-- more turns than any loop here takes -/
def fuelN : Nat := 5000
abbrev mwF (h : Nat → Nat) (f : Nat → Int32) : List Value := [.int (f 0), .int (f 1), .ref (h 2), .ref (h 3), .ref (h 4), .ref (h 5), .ref (h 6), .int (f 7), .ref (h 8), .int (f 9), .ref (h 10), .int (f 11), .int (f 12), .int (f 13), .int (f 14), .int (f 15), .int (f 16), .int (f 17), .int (f 18), .int (f 19), .ref (h 20), .ref (h 21), .ref (h 22), .ref (h 23), .ref (h 24), .int (f 25)]
/-- the cells of the reference: the object at h 0, the array of field k at h k -/
abbrev mw (h : Nat → Nat) (cI cZ : ClassId) (σ : MS) : va_W := [(h 0, .inr (8, mwF h σ.1)), (h 2, .inl (cI, 8, .inl (σ.2 2))), (h 3, .inl (cI, 8, .inl (σ.2 3))), (h 4, .inl (cI, 320, .inl (σ.2 4))), (h 5, .inl (cI, 147, .inl (σ.2 5))), (h 6, .inl (cI, 147, .inl (σ.2 6))), (h 8, .inl (cI, 3528, .inl (σ.2 8))), (h 10, .inl (cI, 500, .inl (σ.2 10))), (h 20, .inl (cI, 6, .inl (σ.2 20))), (h 21, .inl (cI, 6, .inl (σ.2 21))), (h 22, .inl (cZ, 2, .inl (σ.2 22))), (h 23, .inl (cI, 294, .inl (σ.2 23))), (h 24, .inl (cI, 16, .inl (σ.2 24)))]
section MF
variable {p : Program} {l : Launch} {e : Env} {R : Room} {s : State} {m : MethodId} {args : Array Value} {below : List Frame} {meth : Method} {c : Code} {H : Heap} {locs : List Loc} {cells slots : Nat} {Q : State → Prop}
variable {cc : ByteArray} {pc : Nat} {ls : Array Slot} {rest : List Value} {D : va_G} {A : Nat → Prop} {H0 : Heap} {nL idx : Nat} {Ts : List Cond} {h : Nat → Nat} {cI cZ : ClassId} {σ : MS}
theorem Mg_0 {tys : List (ClassId × FieldType)} (S : CallFix p m c cc nL s args Ts RX9) (hin : ∀ w ∈ wsX90, w ∈ Ts) (hK : va_K D vwCl tys s) (hP : va_P D vwCl (mw h cI cZ σ) H) (hf : (Cond.fieldLink RX9 idx "PenniesAwayModel" "thrown" "I").before args s = true) (hdg : decode cc pc = .ok (.getfield idx, 3)) (kk : W p l e R s m args below meth c H locs cells slots Q (F0 m (pc + 3) ls (.int (σ.1 0) :: rest))) : W p l e R s m args below meth c H locs cells slots Q (F0 m pc ls (.ref (h 0) :: rest)) :=
  va_get (D := D) (ci := 8) (v := .int (σ.1 0)) (C := RX9) (T := TX9) (N := 26) S.1 S.2.1 S.2.2.2.2 hin S.2.2.2.1 hK hP 0 rfl rfl 0 (by decide) hf (fun _ h9 => h9) rfl hdg kk
theorem Mp_0 {tys : List (ClassId × FieldType)} {x : Int32} (S : CallFix p m c cc nL s args Ts RX9) (hin : ∀ w ∈ wsX90, w ∈ Ts) (hK : va_K D vwCl tys s) (hP : va_P D vwCl (mw h cI cZ σ) H) (hD : va_D A (mw h cI cZ σ)) (hS : va_S A H0 H locs) (hf : (Cond.fieldLink RX9 idx "PenniesAwayModel" "thrown" "I").before args s = true) (hdg : decode cc pc = .ok (.putfield idx, 3)) (kk : ∀ (H1 : Heap) (locs1 : List Loc), va_P D vwCl (mw h cI cZ (setF σ 0 x)) H1 → va_D A (mw h cI cZ (setF σ 0 x)) → va_S A H0 H1 locs1 → W p l e R s m args below meth c H1 locs1 cells slots Q (F0 m (pc + 3) ls rest)) : W p l e R s m args below meth c H locs cells slots Q (F0 m pc ls (.int x :: .ref (h 0) :: rest)) :=
  va_put (D := D) (ci := 8) (v := .int x) (ty := .int) (C := RX9) (T := TX9) (N := 26) S.1 S.2.1 S.2.2.2.2 hin tyX9 tyX9_ok nmX9 S.2.2.2.1 hK hP hD hS 0 rfl rfl 0 (by decide) hf (fun _ h9 => h9) rfl (by decide +kernel) rfl rfl (Nat.le_of_ble_eq_true rfl) hdg kk
theorem Mg_1 {tys : List (ClassId × FieldType)} (S : CallFix p m c cc nL s args Ts RX9) (hin : ∀ w ∈ wsX90, w ∈ Ts) (hK : va_K D vwCl tys s) (hP : va_P D vwCl (mw h cI cZ σ) H) (hf : (Cond.fieldLink RX9 idx "PenniesAwayModel" "status" "I").before args s = true) (hdg : decode cc pc = .ok (.getfield idx, 3)) (kk : W p l e R s m args below meth c H locs cells slots Q (F0 m (pc + 3) ls (.int (σ.1 1) :: rest))) : W p l e R s m args below meth c H locs cells slots Q (F0 m pc ls (.ref (h 0) :: rest)) :=
  va_get (D := D) (ci := 8) (v := .int (σ.1 1)) (C := RX9) (T := TX9) (N := 26) S.1 S.2.1 S.2.2.2.2 hin S.2.2.2.1 hK hP 0 rfl rfl 1 (by decide) hf (fun _ h9 => h9) rfl hdg kk
theorem Mp_1 {tys : List (ClassId × FieldType)} {x : Int32} (S : CallFix p m c cc nL s args Ts RX9) (hin : ∀ w ∈ wsX90, w ∈ Ts) (hK : va_K D vwCl tys s) (hP : va_P D vwCl (mw h cI cZ σ) H) (hD : va_D A (mw h cI cZ σ)) (hS : va_S A H0 H locs) (hf : (Cond.fieldLink RX9 idx "PenniesAwayModel" "status" "I").before args s = true) (hdg : decode cc pc = .ok (.putfield idx, 3)) (kk : ∀ (H1 : Heap) (locs1 : List Loc), va_P D vwCl (mw h cI cZ (setF σ 1 x)) H1 → va_D A (mw h cI cZ (setF σ 1 x)) → va_S A H0 H1 locs1 → W p l e R s m args below meth c H1 locs1 cells slots Q (F0 m (pc + 3) ls rest)) : W p l e R s m args below meth c H locs cells slots Q (F0 m pc ls (.int x :: .ref (h 0) :: rest)) :=
  va_put (D := D) (ci := 8) (v := .int x) (ty := .int) (C := RX9) (T := TX9) (N := 26) S.1 S.2.1 S.2.2.2.2 hin tyX9 tyX9_ok nmX9 S.2.2.2.1 hK hP hD hS 0 rfl rfl 1 (by decide) hf (fun _ h9 => h9) rfl (by decide +kernel) rfl rfl (Nat.le_of_ble_eq_true rfl) hdg kk
theorem Mg_2 {tys : List (ClassId × FieldType)} (S : CallFix p m c cc nL s args Ts RX9) (hin : ∀ w ∈ wsX90, w ∈ Ts) (hK : va_K D vwCl tys s) (hP : va_P D vwCl (mw h cI cZ σ) H) (hf : (Cond.fieldLink RX9 idx "PenniesAwayModel" "lane" "[I").before args s = true) (hdg : decode cc pc = .ok (.getfield idx, 3)) (kk : W p l e R s m args below meth c H locs cells slots Q (F0 m (pc + 3) ls (.ref (h 2) :: rest))) : W p l e R s m args below meth c H locs cells slots Q (F0 m pc ls (.ref (h 0) :: rest)) :=
  va_get (D := D) (ci := 8) (v := .ref (h 2)) (C := RX9) (T := TX9) (N := 26) S.1 S.2.1 S.2.2.2.2 hin S.2.2.2.1 hK hP 0 rfl rfl 2 (by decide) hf (fun _ h9 => h9) rfl hdg kk
theorem Mg_3 {tys : List (ClassId × FieldType)} (S : CallFix p m c cc nL s args Ts RX9) (hin : ∀ w ∈ wsX90, w ∈ Ts) (hK : va_K D vwCl tys s) (hP : va_P D vwCl (mw h cI cZ σ) H) (hf : (Cond.fieldLink RX9 idx "PenniesAwayModel" "many" "[I").before args s = true) (hdg : decode cc pc = .ok (.getfield idx, 3)) (kk : W p l e R s m args below meth c H locs cells slots Q (F0 m (pc + 3) ls (.ref (h 3) :: rest))) : W p l e R s m args below meth c H locs cells slots Q (F0 m pc ls (.ref (h 0) :: rest)) :=
  va_get (D := D) (ci := 8) (v := .ref (h 3)) (C := RX9) (T := TX9) (N := 26) S.1 S.2.1 S.2.2.2.2 hin S.2.2.2.1 hK hP 0 rfl rfl 3 (by decide) hf (fun _ h9 => h9) rfl hdg kk
theorem Mg_4 {tys : List (ClassId × FieldType)} (S : CallFix p m c cc nL s args Ts RX9) (hin : ∀ w ∈ wsX90, w ∈ Ts) (hK : va_K D vwCl tys s) (hP : va_P D vwCl (mw h cI cZ σ) H) (hf : (Cond.fieldLink RX9 idx "PenniesAwayModel" "item" "[I").before args s = true) (hdg : decode cc pc = .ok (.getfield idx, 3)) (kk : W p l e R s m args below meth c H locs cells slots Q (F0 m (pc + 3) ls (.ref (h 4) :: rest))) : W p l e R s m args below meth c H locs cells slots Q (F0 m pc ls (.ref (h 0) :: rest)) :=
  va_get (D := D) (ci := 8) (v := .ref (h 4)) (C := RX9) (T := TX9) (N := 26) S.1 S.2.1 S.2.2.2.2 hin S.2.2.2.1 hK hP 0 rfl rfl 4 (by decide) hf (fun _ h9 => h9) rfl hdg kk
theorem Mg_5 {tys : List (ClassId × FieldType)} (S : CallFix p m c cc nL s args Ts RX9) (hin : ∀ w ∈ wsX90, w ∈ Ts) (hK : va_K D vwCl tys s) (hP : va_P D vwCl (mw h cI cZ σ) H) (hf : (Cond.fieldLink RX9 idx "PenniesAwayModel" "realm" "[I").before args s = true) (hdg : decode cc pc = .ok (.getfield idx, 3)) (kk : W p l e R s m args below meth c H locs cells slots Q (F0 m (pc + 3) ls (.ref (h 5) :: rest))) : W p l e R s m args below meth c H locs cells slots Q (F0 m pc ls (.ref (h 0) :: rest)) :=
  va_get (D := D) (ci := 8) (v := .ref (h 5)) (C := RX9) (T := TX9) (N := 26) S.1 S.2.1 S.2.2.2.2 hin S.2.2.2.1 hK hP 0 rfl rfl 5 (by decide) hf (fun _ h9 => h9) rfl hdg kk
theorem Mg_6 {tys : List (ClassId × FieldType)} (S : CallFix p m c cc nL s args Ts RX9) (hin : ∀ w ∈ wsX90, w ∈ Ts) (hK : va_K D vwCl tys s) (hP : va_P D vwCl (mw h cI cZ σ) H) (hf : (Cond.fieldLink RX9 idx "PenniesAwayModel" "fresh" "[I").before args s = true) (hdg : decode cc pc = .ok (.getfield idx, 3)) (kk : W p l e R s m args below meth c H locs cells slots Q (F0 m (pc + 3) ls (.ref (h 6) :: rest))) : W p l e R s m args below meth c H locs cells slots Q (F0 m pc ls (.ref (h 0) :: rest)) :=
  va_get (D := D) (ci := 8) (v := .ref (h 6)) (C := RX9) (T := TX9) (N := 26) S.1 S.2.1 S.2.2.2.2 hin S.2.2.2.1 hK hP 0 rfl rfl 6 (by decide) hf (fun _ h9 => h9) rfl hdg kk
theorem Mg_7 {tys : List (ClassId × FieldType)} (S : CallFix p m c cc nL s args Ts RX9) (hin : ∀ w ∈ wsX90, w ∈ Ts) (hK : va_K D vwCl tys s) (hP : va_P D vwCl (mw h cI cZ σ) H) (hf : (Cond.fieldLink RX9 idx "PenniesAwayModel" "isThere" "Z").before args s = true) (hdg : decode cc pc = .ok (.getfield idx, 3)) (kk : W p l e R s m args below meth c H locs cells slots Q (F0 m (pc + 3) ls (.int (σ.1 7) :: rest))) : W p l e R s m args below meth c H locs cells slots Q (F0 m pc ls (.ref (h 0) :: rest)) :=
  va_get (D := D) (ci := 8) (v := .int (σ.1 7)) (C := RX9) (T := TX9) (N := 26) S.1 S.2.1 S.2.2.2.2 hin S.2.2.2.1 hK hP 0 rfl rfl 7 (by decide) hf (fun _ h9 => h9) rfl hdg kk
theorem Mp_7 {tys : List (ClassId × FieldType)} {x : Int32} (S : CallFix p m c cc nL s args Ts RX9) (hin : ∀ w ∈ wsX90, w ∈ Ts) (hK : va_K D vwCl tys s) (hP : va_P D vwCl (mw h cI cZ σ) H) (hD : va_D A (mw h cI cZ σ)) (hS : va_S A H0 H locs) (hf : (Cond.fieldLink RX9 idx "PenniesAwayModel" "isThere" "Z").before args s = true) (hn : narrow .boolean (.int x) = .int x) (hft : fits .boolean (.int x) = true) (hdg : decode cc pc = .ok (.putfield idx, 3)) (kk : ∀ (H1 : Heap) (locs1 : List Loc), va_P D vwCl (mw h cI cZ (setF σ 7 x)) H1 → va_D A (mw h cI cZ (setF σ 7 x)) → va_S A H0 H1 locs1 → W p l e R s m args below meth c H1 locs1 cells slots Q (F0 m (pc + 3) ls rest)) : W p l e R s m args below meth c H locs cells slots Q (F0 m pc ls (.int x :: .ref (h 0) :: rest)) :=
  va_put (D := D) (ci := 8) (v := .int x) (ty := .boolean) (C := RX9) (T := TX9) (N := 26) S.1 S.2.1 S.2.2.2.2 hin tyX9 tyX9_ok nmX9 S.2.2.2.1 hK hP hD hS 0 rfl rfl 7 (by decide) hf (fun _ h9 => h9) rfl (by decide +kernel) hn hft (Nat.le_of_ble_eq_true rfl) hdg kk
theorem Mg_8 {tys : List (ClassId × FieldType)} (S : CallFix p m c cc nL s args Ts RX9) (hin : ∀ w ∈ wsX90, w ∈ Ts) (hK : va_K D vwCl tys s) (hP : va_P D vwCl (mw h cI cZ σ) H) (hf : (Cond.fieldLink RX9 idx "PenniesAwayModel" "was" "[I").before args s = true) (hdg : decode cc pc = .ok (.getfield idx, 3)) (kk : W p l e R s m args below meth c H locs cells slots Q (F0 m (pc + 3) ls (.ref (h 8) :: rest))) : W p l e R s m args below meth c H locs cells slots Q (F0 m pc ls (.ref (h 0) :: rest)) :=
  va_get (D := D) (ci := 8) (v := .ref (h 8)) (C := RX9) (T := TX9) (N := 26) S.1 S.2.1 S.2.2.2.2 hin S.2.2.2.1 hK hP 0 rfl rfl 8 (by decide) hf (fun _ h9 => h9) rfl hdg kk
theorem Mg_9 {tys : List (ClassId × FieldType)} (S : CallFix p m c cc nL s args Ts RX9) (hin : ∀ w ∈ wsX90, w ∈ Ts) (hK : va_K D vwCl tys s) (hP : va_P D vwCl (mw h cI cZ σ) H) (hf : (Cond.fieldLink RX9 idx "PenniesAwayModel" "acts" "I").before args s = true) (hdg : decode cc pc = .ok (.getfield idx, 3)) (kk : W p l e R s m args below meth c H locs cells slots Q (F0 m (pc + 3) ls (.int (σ.1 9) :: rest))) : W p l e R s m args below meth c H locs cells slots Q (F0 m pc ls (.ref (h 0) :: rest)) :=
  va_get (D := D) (ci := 8) (v := .int (σ.1 9)) (C := RX9) (T := TX9) (N := 26) S.1 S.2.1 S.2.2.2.2 hin S.2.2.2.1 hK hP 0 rfl rfl 9 (by decide) hf (fun _ h9 => h9) rfl hdg kk
theorem Mp_9 {tys : List (ClassId × FieldType)} {x : Int32} (S : CallFix p m c cc nL s args Ts RX9) (hin : ∀ w ∈ wsX90, w ∈ Ts) (hK : va_K D vwCl tys s) (hP : va_P D vwCl (mw h cI cZ σ) H) (hD : va_D A (mw h cI cZ σ)) (hS : va_S A H0 H locs) (hf : (Cond.fieldLink RX9 idx "PenniesAwayModel" "acts" "I").before args s = true) (hdg : decode cc pc = .ok (.putfield idx, 3)) (kk : ∀ (H1 : Heap) (locs1 : List Loc), va_P D vwCl (mw h cI cZ (setF σ 9 x)) H1 → va_D A (mw h cI cZ (setF σ 9 x)) → va_S A H0 H1 locs1 → W p l e R s m args below meth c H1 locs1 cells slots Q (F0 m (pc + 3) ls rest)) : W p l e R s m args below meth c H locs cells slots Q (F0 m pc ls (.int x :: .ref (h 0) :: rest)) :=
  va_put (D := D) (ci := 8) (v := .int x) (ty := .int) (C := RX9) (T := TX9) (N := 26) S.1 S.2.1 S.2.2.2.2 hin tyX9 tyX9_ok nmX9 S.2.2.2.1 hK hP hD hS 0 rfl rfl 9 (by decide) hf (fun _ h9 => h9) rfl (by decide +kernel) rfl rfl (Nat.le_of_ble_eq_true rfl) hdg kk
theorem Mg_10 {tys : List (ClassId × FieldType)} (S : CallFix p m c cc nL s args Ts RX9) (hin : ∀ w ∈ wsX90, w ∈ Ts) (hK : va_K D vwCl tys s) (hP : va_P D vwCl (mw h cI cZ σ) H) (hf : (Cond.fieldLink RX9 idx "PenniesAwayModel" "tape" "[I").before args s = true) (hdg : decode cc pc = .ok (.getfield idx, 3)) (kk : W p l e R s m args below meth c H locs cells slots Q (F0 m (pc + 3) ls (.ref (h 10) :: rest))) : W p l e R s m args below meth c H locs cells slots Q (F0 m pc ls (.ref (h 0) :: rest)) :=
  va_get (D := D) (ci := 8) (v := .ref (h 10)) (C := RX9) (T := TX9) (N := 26) S.1 S.2.1 S.2.2.2.2 hin S.2.2.2.1 hK hP 0 rfl rfl 10 (by decide) hf (fun _ h9 => h9) rfl hdg kk
theorem Mg_11 {tys : List (ClassId × FieldType)} (S : CallFix p m c cc nL s args Ts RX9) (hin : ∀ w ∈ wsX90, w ∈ Ts) (hK : va_K D vwCl tys s) (hP : va_P D vwCl (mw h cI cZ σ) H) (hf : (Cond.fieldLink RX9 idx "PenniesAwayModel" "taped" "I").before args s = true) (hdg : decode cc pc = .ok (.getfield idx, 3)) (kk : W p l e R s m args below meth c H locs cells slots Q (F0 m (pc + 3) ls (.int (σ.1 11) :: rest))) : W p l e R s m args below meth c H locs cells slots Q (F0 m pc ls (.ref (h 0) :: rest)) :=
  va_get (D := D) (ci := 8) (v := .int (σ.1 11)) (C := RX9) (T := TX9) (N := 26) S.1 S.2.1 S.2.2.2.2 hin S.2.2.2.1 hK hP 0 rfl rfl 11 (by decide) hf (fun _ h9 => h9) rfl hdg kk
theorem Mp_11 {tys : List (ClassId × FieldType)} {x : Int32} (S : CallFix p m c cc nL s args Ts RX9) (hin : ∀ w ∈ wsX90, w ∈ Ts) (hK : va_K D vwCl tys s) (hP : va_P D vwCl (mw h cI cZ σ) H) (hD : va_D A (mw h cI cZ σ)) (hS : va_S A H0 H locs) (hf : (Cond.fieldLink RX9 idx "PenniesAwayModel" "taped" "I").before args s = true) (hdg : decode cc pc = .ok (.putfield idx, 3)) (kk : ∀ (H1 : Heap) (locs1 : List Loc), va_P D vwCl (mw h cI cZ (setF σ 11 x)) H1 → va_D A (mw h cI cZ (setF σ 11 x)) → va_S A H0 H1 locs1 → W p l e R s m args below meth c H1 locs1 cells slots Q (F0 m (pc + 3) ls rest)) : W p l e R s m args below meth c H locs cells slots Q (F0 m pc ls (.int x :: .ref (h 0) :: rest)) :=
  va_put (D := D) (ci := 8) (v := .int x) (ty := .int) (C := RX9) (T := TX9) (N := 26) S.1 S.2.1 S.2.2.2.2 hin tyX9 tyX9_ok nmX9 S.2.2.2.1 hK hP hD hS 0 rfl rfl 11 (by decide) hf (fun _ h9 => h9) rfl (by decide +kernel) rfl rfl (Nat.le_of_ble_eq_true rfl) hdg kk
theorem Mg_12 {tys : List (ClassId × FieldType)} (S : CallFix p m c cc nL s args Ts RX9) (hin : ∀ w ∈ wsX90, w ∈ Ts) (hK : va_K D vwCl tys s) (hP : va_P D vwCl (mw h cI cZ σ) H) (hf : (Cond.fieldLink RX9 idx "PenniesAwayModel" "latest" "I").before args s = true) (hdg : decode cc pc = .ok (.getfield idx, 3)) (kk : W p l e R s m args below meth c H locs cells slots Q (F0 m (pc + 3) ls (.int (σ.1 12) :: rest))) : W p l e R s m args below meth c H locs cells slots Q (F0 m pc ls (.ref (h 0) :: rest)) :=
  va_get (D := D) (ci := 8) (v := .int (σ.1 12)) (C := RX9) (T := TX9) (N := 26) S.1 S.2.1 S.2.2.2.2 hin S.2.2.2.1 hK hP 0 rfl rfl 12 (by decide) hf (fun _ h9 => h9) rfl hdg kk
theorem Mp_12 {tys : List (ClassId × FieldType)} {x : Int32} (S : CallFix p m c cc nL s args Ts RX9) (hin : ∀ w ∈ wsX90, w ∈ Ts) (hK : va_K D vwCl tys s) (hP : va_P D vwCl (mw h cI cZ σ) H) (hD : va_D A (mw h cI cZ σ)) (hS : va_S A H0 H locs) (hf : (Cond.fieldLink RX9 idx "PenniesAwayModel" "latest" "I").before args s = true) (hdg : decode cc pc = .ok (.putfield idx, 3)) (kk : ∀ (H1 : Heap) (locs1 : List Loc), va_P D vwCl (mw h cI cZ (setF σ 12 x)) H1 → va_D A (mw h cI cZ (setF σ 12 x)) → va_S A H0 H1 locs1 → W p l e R s m args below meth c H1 locs1 cells slots Q (F0 m (pc + 3) ls rest)) : W p l e R s m args below meth c H locs cells slots Q (F0 m pc ls (.int x :: .ref (h 0) :: rest)) :=
  va_put (D := D) (ci := 8) (v := .int x) (ty := .int) (C := RX9) (T := TX9) (N := 26) S.1 S.2.1 S.2.2.2.2 hin tyX9 tyX9_ok nmX9 S.2.2.2.1 hK hP hD hS 0 rfl rfl 12 (by decide) hf (fun _ h9 => h9) rfl (by decide +kernel) rfl rfl (Nat.le_of_ble_eq_true rfl) hdg kk
theorem Mg_13 {tys : List (ClassId × FieldType)} (S : CallFix p m c cc nL s args Ts RX9) (hin : ∀ w ∈ wsX90, w ∈ Ts) (hK : va_K D vwCl tys s) (hP : va_P D vwCl (mw h cI cZ σ) H) (hf : (Cond.fieldLink RX9 idx "PenniesAwayModel" "length" "I").before args s = true) (hdg : decode cc pc = .ok (.getfield idx, 3)) (kk : W p l e R s m args below meth c H locs cells slots Q (F0 m (pc + 3) ls (.int (σ.1 13) :: rest))) : W p l e R s m args below meth c H locs cells slots Q (F0 m pc ls (.ref (h 0) :: rest)) :=
  va_get (D := D) (ci := 8) (v := .int (σ.1 13)) (C := RX9) (T := TX9) (N := 26) S.1 S.2.1 S.2.2.2.2 hin S.2.2.2.1 hK hP 0 rfl rfl 13 (by decide) hf (fun _ h9 => h9) rfl hdg kk
theorem Mp_13 {tys : List (ClassId × FieldType)} {x : Int32} (S : CallFix p m c cc nL s args Ts RX9) (hin : ∀ w ∈ wsX90, w ∈ Ts) (hK : va_K D vwCl tys s) (hP : va_P D vwCl (mw h cI cZ σ) H) (hD : va_D A (mw h cI cZ σ)) (hS : va_S A H0 H locs) (hf : (Cond.fieldLink RX9 idx "PenniesAwayModel" "length" "I").before args s = true) (hdg : decode cc pc = .ok (.putfield idx, 3)) (kk : ∀ (H1 : Heap) (locs1 : List Loc), va_P D vwCl (mw h cI cZ (setF σ 13 x)) H1 → va_D A (mw h cI cZ (setF σ 13 x)) → va_S A H0 H1 locs1 → W p l e R s m args below meth c H1 locs1 cells slots Q (F0 m (pc + 3) ls rest)) : W p l e R s m args below meth c H locs cells slots Q (F0 m pc ls (.int x :: .ref (h 0) :: rest)) :=
  va_put (D := D) (ci := 8) (v := .int x) (ty := .int) (C := RX9) (T := TX9) (N := 26) S.1 S.2.1 S.2.2.2.2 hin tyX9 tyX9_ok nmX9 S.2.2.2.1 hK hP hD hS 0 rfl rfl 13 (by decide) hf (fun _ h9 => h9) rfl (by decide +kernel) rfl rfl (Nat.le_of_ble_eq_true rfl) hdg kk
theorem Mg_14 {tys : List (ClassId × FieldType)} (S : CallFix p m c cc nL s args Ts RX9) (hin : ∀ w ∈ wsX90, w ∈ Ts) (hK : va_K D vwCl tys s) (hP : va_P D vwCl (mw h cI cZ σ) H) (hf : (Cond.fieldLink RX9 idx "PenniesAwayModel" "cursor" "I").before args s = true) (hdg : decode cc pc = .ok (.getfield idx, 3)) (kk : W p l e R s m args below meth c H locs cells slots Q (F0 m (pc + 3) ls (.int (σ.1 14) :: rest))) : W p l e R s m args below meth c H locs cells slots Q (F0 m pc ls (.ref (h 0) :: rest)) :=
  va_get (D := D) (ci := 8) (v := .int (σ.1 14)) (C := RX9) (T := TX9) (N := 26) S.1 S.2.1 S.2.2.2.2 hin S.2.2.2.1 hK hP 0 rfl rfl 14 (by decide) hf (fun _ h9 => h9) rfl hdg kk
theorem Mp_14 {tys : List (ClassId × FieldType)} {x : Int32} (S : CallFix p m c cc nL s args Ts RX9) (hin : ∀ w ∈ wsX90, w ∈ Ts) (hK : va_K D vwCl tys s) (hP : va_P D vwCl (mw h cI cZ σ) H) (hD : va_D A (mw h cI cZ σ)) (hS : va_S A H0 H locs) (hf : (Cond.fieldLink RX9 idx "PenniesAwayModel" "cursor" "I").before args s = true) (hdg : decode cc pc = .ok (.putfield idx, 3)) (kk : ∀ (H1 : Heap) (locs1 : List Loc), va_P D vwCl (mw h cI cZ (setF σ 14 x)) H1 → va_D A (mw h cI cZ (setF σ 14 x)) → va_S A H0 H1 locs1 → W p l e R s m args below meth c H1 locs1 cells slots Q (F0 m (pc + 3) ls rest)) : W p l e R s m args below meth c H locs cells slots Q (F0 m pc ls (.int x :: .ref (h 0) :: rest)) :=
  va_put (D := D) (ci := 8) (v := .int x) (ty := .int) (C := RX9) (T := TX9) (N := 26) S.1 S.2.1 S.2.2.2.2 hin tyX9 tyX9_ok nmX9 S.2.2.2.1 hK hP hD hS 0 rfl rfl 14 (by decide) hf (fun _ h9 => h9) rfl (by decide +kernel) rfl rfl (Nat.le_of_ble_eq_true rfl) hdg kk
theorem Mg_15 {tys : List (ClassId × FieldType)} (S : CallFix p m c cc nL s args Ts RX9) (hin : ∀ w ∈ wsX90, w ∈ Ts) (hK : va_K D vwCl tys s) (hP : va_P D vwCl (mw h cI cZ σ) H) (hf : (Cond.fieldLink RX9 idx "PenniesAwayModel" "token" "I").before args s = true) (hdg : decode cc pc = .ok (.getfield idx, 3)) (kk : W p l e R s m args below meth c H locs cells slots Q (F0 m (pc + 3) ls (.int (σ.1 15) :: rest))) : W p l e R s m args below meth c H locs cells slots Q (F0 m pc ls (.ref (h 0) :: rest)) :=
  va_get (D := D) (ci := 8) (v := .int (σ.1 15)) (C := RX9) (T := TX9) (N := 26) S.1 S.2.1 S.2.2.2.2 hin S.2.2.2.1 hK hP 0 rfl rfl 15 (by decide) hf (fun _ h9 => h9) rfl hdg kk
theorem Mp_15 {tys : List (ClassId × FieldType)} {x : Int32} (S : CallFix p m c cc nL s args Ts RX9) (hin : ∀ w ∈ wsX90, w ∈ Ts) (hK : va_K D vwCl tys s) (hP : va_P D vwCl (mw h cI cZ σ) H) (hD : va_D A (mw h cI cZ σ)) (hS : va_S A H0 H locs) (hf : (Cond.fieldLink RX9 idx "PenniesAwayModel" "token" "I").before args s = true) (hdg : decode cc pc = .ok (.putfield idx, 3)) (kk : ∀ (H1 : Heap) (locs1 : List Loc), va_P D vwCl (mw h cI cZ (setF σ 15 x)) H1 → va_D A (mw h cI cZ (setF σ 15 x)) → va_S A H0 H1 locs1 → W p l e R s m args below meth c H1 locs1 cells slots Q (F0 m (pc + 3) ls rest)) : W p l e R s m args below meth c H locs cells slots Q (F0 m pc ls (.int x :: .ref (h 0) :: rest)) :=
  va_put (D := D) (ci := 8) (v := .int x) (ty := .int) (C := RX9) (T := TX9) (N := 26) S.1 S.2.1 S.2.2.2.2 hin tyX9 tyX9_ok nmX9 S.2.2.2.1 hK hP hD hS 0 rfl rfl 15 (by decide) hf (fun _ h9 => h9) rfl (by decide +kernel) rfl rfl (Nat.le_of_ble_eq_true rfl) hdg kk
theorem Mg_16 {tys : List (ClassId × FieldType)} (S : CallFix p m c cc nL s args Ts RX9) (hin : ∀ w ∈ wsX90, w ∈ Ts) (hK : va_K D vwCl tys s) (hP : va_P D vwCl (mw h cI cZ σ) H) (hf : (Cond.fieldLink RX9 idx "PenniesAwayModel" "start" "I").before args s = true) (hdg : decode cc pc = .ok (.getfield idx, 3)) (kk : W p l e R s m args below meth c H locs cells slots Q (F0 m (pc + 3) ls (.int (σ.1 16) :: rest))) : W p l e R s m args below meth c H locs cells slots Q (F0 m pc ls (.ref (h 0) :: rest)) :=
  va_get (D := D) (ci := 8) (v := .int (σ.1 16)) (C := RX9) (T := TX9) (N := 26) S.1 S.2.1 S.2.2.2.2 hin S.2.2.2.1 hK hP 0 rfl rfl 16 (by decide) hf (fun _ h9 => h9) rfl hdg kk
theorem Mp_16 {tys : List (ClassId × FieldType)} {x : Int32} (S : CallFix p m c cc nL s args Ts RX9) (hin : ∀ w ∈ wsX90, w ∈ Ts) (hK : va_K D vwCl tys s) (hP : va_P D vwCl (mw h cI cZ σ) H) (hD : va_D A (mw h cI cZ σ)) (hS : va_S A H0 H locs) (hf : (Cond.fieldLink RX9 idx "PenniesAwayModel" "start" "I").before args s = true) (hdg : decode cc pc = .ok (.putfield idx, 3)) (kk : ∀ (H1 : Heap) (locs1 : List Loc), va_P D vwCl (mw h cI cZ (setF σ 16 x)) H1 → va_D A (mw h cI cZ (setF σ 16 x)) → va_S A H0 H1 locs1 → W p l e R s m args below meth c H1 locs1 cells slots Q (F0 m (pc + 3) ls rest)) : W p l e R s m args below meth c H locs cells slots Q (F0 m pc ls (.int x :: .ref (h 0) :: rest)) :=
  va_put (D := D) (ci := 8) (v := .int x) (ty := .int) (C := RX9) (T := TX9) (N := 26) S.1 S.2.1 S.2.2.2.2 hin tyX9 tyX9_ok nmX9 S.2.2.2.1 hK hP hD hS 0 rfl rfl 16 (by decide) hf (fun _ h9 => h9) rfl (by decide +kernel) rfl rfl (Nat.le_of_ble_eq_true rfl) hdg kk
theorem Mg_17 {tys : List (ClassId × FieldType)} (S : CallFix p m c cc nL s args Ts RX9) (hin : ∀ w ∈ wsX90, w ∈ Ts) (hK : va_K D vwCl tys s) (hP : va_P D vwCl (mw h cI cZ σ) H) (hf : (Cond.fieldLink RX9 idx "PenniesAwayModel" "till" "I").before args s = true) (hdg : decode cc pc = .ok (.getfield idx, 3)) (kk : W p l e R s m args below meth c H locs cells slots Q (F0 m (pc + 3) ls (.int (σ.1 17) :: rest))) : W p l e R s m args below meth c H locs cells slots Q (F0 m pc ls (.ref (h 0) :: rest)) :=
  va_get (D := D) (ci := 8) (v := .int (σ.1 17)) (C := RX9) (T := TX9) (N := 26) S.1 S.2.1 S.2.2.2.2 hin S.2.2.2.1 hK hP 0 rfl rfl 17 (by decide) hf (fun _ h9 => h9) rfl hdg kk
theorem Mp_17 {tys : List (ClassId × FieldType)} {x : Int32} (S : CallFix p m c cc nL s args Ts RX9) (hin : ∀ w ∈ wsX90, w ∈ Ts) (hK : va_K D vwCl tys s) (hP : va_P D vwCl (mw h cI cZ σ) H) (hD : va_D A (mw h cI cZ σ)) (hS : va_S A H0 H locs) (hf : (Cond.fieldLink RX9 idx "PenniesAwayModel" "till" "I").before args s = true) (hdg : decode cc pc = .ok (.putfield idx, 3)) (kk : ∀ (H1 : Heap) (locs1 : List Loc), va_P D vwCl (mw h cI cZ (setF σ 17 x)) H1 → va_D A (mw h cI cZ (setF σ 17 x)) → va_S A H0 H1 locs1 → W p l e R s m args below meth c H1 locs1 cells slots Q (F0 m (pc + 3) ls rest)) : W p l e R s m args below meth c H locs cells slots Q (F0 m pc ls (.int x :: .ref (h 0) :: rest)) :=
  va_put (D := D) (ci := 8) (v := .int x) (ty := .int) (C := RX9) (T := TX9) (N := 26) S.1 S.2.1 S.2.2.2.2 hin tyX9 tyX9_ok nmX9 S.2.2.2.1 hK hP hD hS 0 rfl rfl 17 (by decide) hf (fun _ h9 => h9) rfl (by decide +kernel) rfl rfl (Nat.le_of_ble_eq_true rfl) hdg kk
theorem Mg_18 {tys : List (ClassId × FieldType)} (S : CallFix p m c cc nL s args Ts RX9) (hin : ∀ w ∈ wsX90, w ∈ Ts) (hK : va_K D vwCl tys s) (hP : va_P D vwCl (mw h cI cZ σ) H) (hf : (Cond.fieldLink RX9 idx "PenniesAwayModel" "fault" "I").before args s = true) (hdg : decode cc pc = .ok (.getfield idx, 3)) (kk : W p l e R s m args below meth c H locs cells slots Q (F0 m (pc + 3) ls (.int (σ.1 18) :: rest))) : W p l e R s m args below meth c H locs cells slots Q (F0 m pc ls (.ref (h 0) :: rest)) :=
  va_get (D := D) (ci := 8) (v := .int (σ.1 18)) (C := RX9) (T := TX9) (N := 26) S.1 S.2.1 S.2.2.2.2 hin S.2.2.2.1 hK hP 0 rfl rfl 18 (by decide) hf (fun _ h9 => h9) rfl hdg kk
theorem Mp_18 {tys : List (ClassId × FieldType)} {x : Int32} (S : CallFix p m c cc nL s args Ts RX9) (hin : ∀ w ∈ wsX90, w ∈ Ts) (hK : va_K D vwCl tys s) (hP : va_P D vwCl (mw h cI cZ σ) H) (hD : va_D A (mw h cI cZ σ)) (hS : va_S A H0 H locs) (hf : (Cond.fieldLink RX9 idx "PenniesAwayModel" "fault" "I").before args s = true) (hdg : decode cc pc = .ok (.putfield idx, 3)) (kk : ∀ (H1 : Heap) (locs1 : List Loc), va_P D vwCl (mw h cI cZ (setF σ 18 x)) H1 → va_D A (mw h cI cZ (setF σ 18 x)) → va_S A H0 H1 locs1 → W p l e R s m args below meth c H1 locs1 cells slots Q (F0 m (pc + 3) ls rest)) : W p l e R s m args below meth c H locs cells slots Q (F0 m pc ls (.int x :: .ref (h 0) :: rest)) :=
  va_put (D := D) (ci := 8) (v := .int x) (ty := .int) (C := RX9) (T := TX9) (N := 26) S.1 S.2.1 S.2.2.2.2 hin tyX9 tyX9_ok nmX9 S.2.2.2.1 hK hP hD hS 0 rfl rfl 18 (by decide) hf (fun _ h9 => h9) rfl (by decide +kernel) rfl rfl (Nat.le_of_ble_eq_true rfl) hdg kk
theorem Mg_19 {tys : List (ClassId × FieldType)} (S : CallFix p m c cc nL s args Ts RX9) (hin : ∀ w ∈ wsX90, w ∈ Ts) (hK : va_K D vwCl tys s) (hP : va_P D vwCl (mw h cI cZ σ) H) (hf : (Cond.fieldLink RX9 idx "PenniesAwayModel" "faultAt" "I").before args s = true) (hdg : decode cc pc = .ok (.getfield idx, 3)) (kk : W p l e R s m args below meth c H locs cells slots Q (F0 m (pc + 3) ls (.int (σ.1 19) :: rest))) : W p l e R s m args below meth c H locs cells slots Q (F0 m pc ls (.ref (h 0) :: rest)) :=
  va_get (D := D) (ci := 8) (v := .int (σ.1 19)) (C := RX9) (T := TX9) (N := 26) S.1 S.2.1 S.2.2.2.2 hin S.2.2.2.1 hK hP 0 rfl rfl 19 (by decide) hf (fun _ h9 => h9) rfl hdg kk
theorem Mp_19 {tys : List (ClassId × FieldType)} {x : Int32} (S : CallFix p m c cc nL s args Ts RX9) (hin : ∀ w ∈ wsX90, w ∈ Ts) (hK : va_K D vwCl tys s) (hP : va_P D vwCl (mw h cI cZ σ) H) (hD : va_D A (mw h cI cZ σ)) (hS : va_S A H0 H locs) (hf : (Cond.fieldLink RX9 idx "PenniesAwayModel" "faultAt" "I").before args s = true) (hdg : decode cc pc = .ok (.putfield idx, 3)) (kk : ∀ (H1 : Heap) (locs1 : List Loc), va_P D vwCl (mw h cI cZ (setF σ 19 x)) H1 → va_D A (mw h cI cZ (setF σ 19 x)) → va_S A H0 H1 locs1 → W p l e R s m args below meth c H1 locs1 cells slots Q (F0 m (pc + 3) ls rest)) : W p l e R s m args below meth c H locs cells slots Q (F0 m pc ls (.int x :: .ref (h 0) :: rest)) :=
  va_put (D := D) (ci := 8) (v := .int x) (ty := .int) (C := RX9) (T := TX9) (N := 26) S.1 S.2.1 S.2.2.2.2 hin tyX9 tyX9_ok nmX9 S.2.2.2.1 hK hP hD hS 0 rfl rfl 19 (by decide) hf (fun _ h9 => h9) rfl (by decide +kernel) rfl rfl (Nat.le_of_ble_eq_true rfl) hdg kk
theorem Mg_20 {tys : List (ClassId × FieldType)} (S : CallFix p m c cc nL s args Ts RX9) (hin : ∀ w ∈ wsX90, w ∈ Ts) (hK : va_K D vwCl tys s) (hP : va_P D vwCl (mw h cI cZ σ) H) (hf : (Cond.fieldLink RX9 idx "PenniesAwayModel" "tried" "[I").before args s = true) (hdg : decode cc pc = .ok (.getfield idx, 3)) (kk : W p l e R s m args below meth c H locs cells slots Q (F0 m (pc + 3) ls (.ref (h 20) :: rest))) : W p l e R s m args below meth c H locs cells slots Q (F0 m pc ls (.ref (h 0) :: rest)) :=
  va_get (D := D) (ci := 8) (v := .ref (h 20)) (C := RX9) (T := TX9) (N := 26) S.1 S.2.1 S.2.2.2.2 hin S.2.2.2.1 hK hP 0 rfl rfl 20 (by decide) hf (fun _ h9 => h9) rfl hdg kk
theorem Mg_21 {tys : List (ClassId × FieldType)} (S : CallFix p m c cc nL s args Ts RX9) (hin : ∀ w ∈ wsX90, w ∈ Ts) (hK : va_K D vwCl tys s) (hP : va_P D vwCl (mw h cI cZ σ) H) (hf : (Cond.fieldLink RX9 idx "PenniesAwayModel" "best" "[I").before args s = true) (hdg : decode cc pc = .ok (.getfield idx, 3)) (kk : W p l e R s m args below meth c H locs cells slots Q (F0 m (pc + 3) ls (.ref (h 21) :: rest))) : W p l e R s m args below meth c H locs cells slots Q (F0 m pc ls (.ref (h 0) :: rest)) :=
  va_get (D := D) (ci := 8) (v := .ref (h 21)) (C := RX9) (T := TX9) (N := 26) S.1 S.2.1 S.2.2.2.2 hin S.2.2.2.1 hK hP 0 rfl rfl 21 (by decide) hf (fun _ h9 => h9) rfl hdg kk
theorem Mg_22 {tys : List (ClassId × FieldType)} (S : CallFix p m c cc nL s args Ts RX9) (hin : ∀ w ∈ wsX90, w ∈ Ts) (hK : va_K D vwCl tys s) (hP : va_P D vwCl (mw h cI cZ σ) H) (hf : (Cond.fieldLink RX9 idx "PenniesAwayModel" "isKept" "[Z").before args s = true) (hdg : decode cc pc = .ok (.getfield idx, 3)) (kk : W p l e R s m args below meth c H locs cells slots Q (F0 m (pc + 3) ls (.ref (h 22) :: rest))) : W p l e R s m args below meth c H locs cells slots Q (F0 m pc ls (.ref (h 0) :: rest)) :=
  va_get (D := D) (ci := 8) (v := .ref (h 22)) (C := RX9) (T := TX9) (N := 26) S.1 S.2.1 S.2.2.2.2 hin S.2.2.2.1 hK hP 0 rfl rfl 22 (by decide) hf (fun _ h9 => h9) rfl hdg kk
theorem Mg_23 {tys : List (ClassId × FieldType)} (S : CallFix p m c cc nL s args Ts RX9) (hin : ∀ w ∈ wsX90, w ∈ Ts) (hK : va_K D vwCl tys s) (hP : va_P D vwCl (mw h cI cZ σ) H) (hf : (Cond.fieldLink RX9 idx "PenniesAwayModel" "kept" "[I").before args s = true) (hdg : decode cc pc = .ok (.getfield idx, 3)) (kk : W p l e R s m args below meth c H locs cells slots Q (F0 m (pc + 3) ls (.ref (h 23) :: rest))) : W p l e R s m args below meth c H locs cells slots Q (F0 m pc ls (.ref (h 0) :: rest)) :=
  va_get (D := D) (ci := 8) (v := .ref (h 23)) (C := RX9) (T := TX9) (N := 26) S.1 S.2.1 S.2.2.2.2 hin S.2.2.2.1 hK hP 0 rfl rfl 23 (by decide) hf (fun _ h9 => h9) rfl hdg kk
theorem Mg_24 {tys : List (ClassId × FieldType)} (S : CallFix p m c cc nL s args Ts RX9) (hin : ∀ w ∈ wsX90, w ∈ Ts) (hK : va_K D vwCl tys s) (hP : va_P D vwCl (mw h cI cZ σ) H) (hf : (Cond.fieldLink RX9 idx "PenniesAwayModel" "trace" "[I").before args s = true) (hdg : decode cc pc = .ok (.getfield idx, 3)) (kk : W p l e R s m args below meth c H locs cells slots Q (F0 m (pc + 3) ls (.ref (h 24) :: rest))) : W p l e R s m args below meth c H locs cells slots Q (F0 m pc ls (.ref (h 0) :: rest)) :=
  va_get (D := D) (ci := 8) (v := .ref (h 24)) (C := RX9) (T := TX9) (N := 26) S.1 S.2.1 S.2.2.2.2 hin S.2.2.2.1 hK hP 0 rfl rfl 24 (by decide) hf (fun _ h9 => h9) rfl hdg kk
theorem Mg_25 {tys : List (ClassId × FieldType)} (S : CallFix p m c cc nL s args Ts RX9) (hin : ∀ w ∈ wsX90, w ∈ Ts) (hK : va_K D vwCl tys s) (hP : va_P D vwCl (mw h cI cZ σ) H) (hf : (Cond.fieldLink RX9 idx "PenniesAwayModel" "traced" "I").before args s = true) (hdg : decode cc pc = .ok (.getfield idx, 3)) (kk : W p l e R s m args below meth c H locs cells slots Q (F0 m (pc + 3) ls (.int (σ.1 25) :: rest))) : W p l e R s m args below meth c H locs cells slots Q (F0 m pc ls (.ref (h 0) :: rest)) :=
  va_get (D := D) (ci := 8) (v := .int (σ.1 25)) (C := RX9) (T := TX9) (N := 26) S.1 S.2.1 S.2.2.2.2 hin S.2.2.2.1 hK hP 0 rfl rfl 25 (by decide) hf (fun _ h9 => h9) rfl hdg kk
theorem Mp_25 {tys : List (ClassId × FieldType)} {x : Int32} (S : CallFix p m c cc nL s args Ts RX9) (hin : ∀ w ∈ wsX90, w ∈ Ts) (hK : va_K D vwCl tys s) (hP : va_P D vwCl (mw h cI cZ σ) H) (hD : va_D A (mw h cI cZ σ)) (hS : va_S A H0 H locs) (hf : (Cond.fieldLink RX9 idx "PenniesAwayModel" "traced" "I").before args s = true) (hdg : decode cc pc = .ok (.putfield idx, 3)) (kk : ∀ (H1 : Heap) (locs1 : List Loc), va_P D vwCl (mw h cI cZ (setF σ 25 x)) H1 → va_D A (mw h cI cZ (setF σ 25 x)) → va_S A H0 H1 locs1 → W p l e R s m args below meth c H1 locs1 cells slots Q (F0 m (pc + 3) ls rest)) : W p l e R s m args below meth c H locs cells slots Q (F0 m pc ls (.int x :: .ref (h 0) :: rest)) :=
  va_put (D := D) (ci := 8) (v := .int x) (ty := .int) (C := RX9) (T := TX9) (N := 26) S.1 S.2.1 S.2.2.2.2 hin tyX9 tyX9_ok nmX9 S.2.2.2.1 hK hP hD hS 0 rfl rfl 25 (by decide) hf (fun _ h9 => h9) rfl (by decide +kernel) rfl rfl (Nat.le_of_ble_eq_true rfl) hdg kk
theorem Ml_2 {i : Int32} (S : CallFix p m c cc nL s args Ts RX9) (hK : va_K D vwCl [(cI, .int), (cZ, .boolean)] s) (hP : va_P D vwCl (mw h cI cZ σ) H) (hi : ¬ (i < 0 ∨ 8 ≤ i.toNatClampNeg)) (hdg : decode cc pc = .ok (.iaload, 1)) (kk : W p l e R s m args below meth c H locs cells slots Q (F0 m (pc + 1) ls (.int (σ.2 2 (Int32.toNatClampNeg i)) :: rest))) : W p l e R s m args below meth c H locs cells slots Q (F0 m pc ls (.int i :: .ref (h 2) :: rest)) :=
  va_iald S.1 S.2.1 hK hP 1 0 rfl rfl hi hdg kk
theorem Ms_2 {i x : Int32} (S : CallFix p m c cc nL s args Ts RX9) (hK : va_K D vwCl [(cI, .int), (cZ, .boolean)] s) (hP : va_P D vwCl (mw h cI cZ σ) H) (hD : va_D A (mw h cI cZ σ)) (hS : va_S A H0 H locs) (hi : ¬ (i < 0 ∨ 8 ≤ i.toNatClampNeg)) (hdg : decode cc pc = .ok (.iastore, 1)) (kk : ∀ (H1 : Heap) (locs1 : List Loc), va_P D vwCl (mw h cI cZ (setA σ 2 (Int32.toNatClampNeg i) x)) H1 → va_D A (mw h cI cZ (setA σ 2 (Int32.toNatClampNeg i) x)) → va_S A H0 H1 locs1 → W p l e R s m args below meth c H1 locs1 cells slots Q (F0 m (pc + 1) ls rest)) : W p l e R s m args below meth c H locs cells slots Q (F0 m pc ls (.int x :: .int i :: .ref (h 2) :: rest)) :=
  va_iast S.1 S.2.1 hK hP hD hS 1 0 rfl rfl hi hdg kk
theorem Ml_3 {i : Int32} (S : CallFix p m c cc nL s args Ts RX9) (hK : va_K D vwCl [(cI, .int), (cZ, .boolean)] s) (hP : va_P D vwCl (mw h cI cZ σ) H) (hi : ¬ (i < 0 ∨ 8 ≤ i.toNatClampNeg)) (hdg : decode cc pc = .ok (.iaload, 1)) (kk : W p l e R s m args below meth c H locs cells slots Q (F0 m (pc + 1) ls (.int (σ.2 3 (Int32.toNatClampNeg i)) :: rest))) : W p l e R s m args below meth c H locs cells slots Q (F0 m pc ls (.int i :: .ref (h 3) :: rest)) :=
  va_iald S.1 S.2.1 hK hP 2 0 rfl rfl hi hdg kk
theorem Ms_3 {i x : Int32} (S : CallFix p m c cc nL s args Ts RX9) (hK : va_K D vwCl [(cI, .int), (cZ, .boolean)] s) (hP : va_P D vwCl (mw h cI cZ σ) H) (hD : va_D A (mw h cI cZ σ)) (hS : va_S A H0 H locs) (hi : ¬ (i < 0 ∨ 8 ≤ i.toNatClampNeg)) (hdg : decode cc pc = .ok (.iastore, 1)) (kk : ∀ (H1 : Heap) (locs1 : List Loc), va_P D vwCl (mw h cI cZ (setA σ 3 (Int32.toNatClampNeg i) x)) H1 → va_D A (mw h cI cZ (setA σ 3 (Int32.toNatClampNeg i) x)) → va_S A H0 H1 locs1 → W p l e R s m args below meth c H1 locs1 cells slots Q (F0 m (pc + 1) ls rest)) : W p l e R s m args below meth c H locs cells slots Q (F0 m pc ls (.int x :: .int i :: .ref (h 3) :: rest)) :=
  va_iast S.1 S.2.1 hK hP hD hS 2 0 rfl rfl hi hdg kk
theorem Ml_4 {i : Int32} (S : CallFix p m c cc nL s args Ts RX9) (hK : va_K D vwCl [(cI, .int), (cZ, .boolean)] s) (hP : va_P D vwCl (mw h cI cZ σ) H) (hi : ¬ (i < 0 ∨ 320 ≤ i.toNatClampNeg)) (hdg : decode cc pc = .ok (.iaload, 1)) (kk : W p l e R s m args below meth c H locs cells slots Q (F0 m (pc + 1) ls (.int (σ.2 4 (Int32.toNatClampNeg i)) :: rest))) : W p l e R s m args below meth c H locs cells slots Q (F0 m pc ls (.int i :: .ref (h 4) :: rest)) :=
  va_iald S.1 S.2.1 hK hP 3 0 rfl rfl hi hdg kk
theorem Ms_4 {i x : Int32} (S : CallFix p m c cc nL s args Ts RX9) (hK : va_K D vwCl [(cI, .int), (cZ, .boolean)] s) (hP : va_P D vwCl (mw h cI cZ σ) H) (hD : va_D A (mw h cI cZ σ)) (hS : va_S A H0 H locs) (hi : ¬ (i < 0 ∨ 320 ≤ i.toNatClampNeg)) (hdg : decode cc pc = .ok (.iastore, 1)) (kk : ∀ (H1 : Heap) (locs1 : List Loc), va_P D vwCl (mw h cI cZ (setA σ 4 (Int32.toNatClampNeg i) x)) H1 → va_D A (mw h cI cZ (setA σ 4 (Int32.toNatClampNeg i) x)) → va_S A H0 H1 locs1 → W p l e R s m args below meth c H1 locs1 cells slots Q (F0 m (pc + 1) ls rest)) : W p l e R s m args below meth c H locs cells slots Q (F0 m pc ls (.int x :: .int i :: .ref (h 4) :: rest)) :=
  va_iast S.1 S.2.1 hK hP hD hS 3 0 rfl rfl hi hdg kk
theorem Ml_5 {i : Int32} (S : CallFix p m c cc nL s args Ts RX9) (hK : va_K D vwCl [(cI, .int), (cZ, .boolean)] s) (hP : va_P D vwCl (mw h cI cZ σ) H) (hi : ¬ (i < 0 ∨ 147 ≤ i.toNatClampNeg)) (hdg : decode cc pc = .ok (.iaload, 1)) (kk : W p l e R s m args below meth c H locs cells slots Q (F0 m (pc + 1) ls (.int (σ.2 5 (Int32.toNatClampNeg i)) :: rest))) : W p l e R s m args below meth c H locs cells slots Q (F0 m pc ls (.int i :: .ref (h 5) :: rest)) :=
  va_iald S.1 S.2.1 hK hP 4 0 rfl rfl hi hdg kk
theorem Ms_5 {i x : Int32} (S : CallFix p m c cc nL s args Ts RX9) (hK : va_K D vwCl [(cI, .int), (cZ, .boolean)] s) (hP : va_P D vwCl (mw h cI cZ σ) H) (hD : va_D A (mw h cI cZ σ)) (hS : va_S A H0 H locs) (hi : ¬ (i < 0 ∨ 147 ≤ i.toNatClampNeg)) (hdg : decode cc pc = .ok (.iastore, 1)) (kk : ∀ (H1 : Heap) (locs1 : List Loc), va_P D vwCl (mw h cI cZ (setA σ 5 (Int32.toNatClampNeg i) x)) H1 → va_D A (mw h cI cZ (setA σ 5 (Int32.toNatClampNeg i) x)) → va_S A H0 H1 locs1 → W p l e R s m args below meth c H1 locs1 cells slots Q (F0 m (pc + 1) ls rest)) : W p l e R s m args below meth c H locs cells slots Q (F0 m pc ls (.int x :: .int i :: .ref (h 5) :: rest)) :=
  va_iast S.1 S.2.1 hK hP hD hS 4 0 rfl rfl hi hdg kk
theorem Ml_6 {i : Int32} (S : CallFix p m c cc nL s args Ts RX9) (hK : va_K D vwCl [(cI, .int), (cZ, .boolean)] s) (hP : va_P D vwCl (mw h cI cZ σ) H) (hi : ¬ (i < 0 ∨ 147 ≤ i.toNatClampNeg)) (hdg : decode cc pc = .ok (.iaload, 1)) (kk : W p l e R s m args below meth c H locs cells slots Q (F0 m (pc + 1) ls (.int (σ.2 6 (Int32.toNatClampNeg i)) :: rest))) : W p l e R s m args below meth c H locs cells slots Q (F0 m pc ls (.int i :: .ref (h 6) :: rest)) :=
  va_iald S.1 S.2.1 hK hP 5 0 rfl rfl hi hdg kk
theorem Ms_6 {i x : Int32} (S : CallFix p m c cc nL s args Ts RX9) (hK : va_K D vwCl [(cI, .int), (cZ, .boolean)] s) (hP : va_P D vwCl (mw h cI cZ σ) H) (hD : va_D A (mw h cI cZ σ)) (hS : va_S A H0 H locs) (hi : ¬ (i < 0 ∨ 147 ≤ i.toNatClampNeg)) (hdg : decode cc pc = .ok (.iastore, 1)) (kk : ∀ (H1 : Heap) (locs1 : List Loc), va_P D vwCl (mw h cI cZ (setA σ 6 (Int32.toNatClampNeg i) x)) H1 → va_D A (mw h cI cZ (setA σ 6 (Int32.toNatClampNeg i) x)) → va_S A H0 H1 locs1 → W p l e R s m args below meth c H1 locs1 cells slots Q (F0 m (pc + 1) ls rest)) : W p l e R s m args below meth c H locs cells slots Q (F0 m pc ls (.int x :: .int i :: .ref (h 6) :: rest)) :=
  va_iast S.1 S.2.1 hK hP hD hS 5 0 rfl rfl hi hdg kk
theorem Ml_8 {i : Int32} (S : CallFix p m c cc nL s args Ts RX9) (hK : va_K D vwCl [(cI, .int), (cZ, .boolean)] s) (hP : va_P D vwCl (mw h cI cZ σ) H) (hi : ¬ (i < 0 ∨ 3528 ≤ i.toNatClampNeg)) (hdg : decode cc pc = .ok (.iaload, 1)) (kk : W p l e R s m args below meth c H locs cells slots Q (F0 m (pc + 1) ls (.int (σ.2 8 (Int32.toNatClampNeg i)) :: rest))) : W p l e R s m args below meth c H locs cells slots Q (F0 m pc ls (.int i :: .ref (h 8) :: rest)) :=
  va_iald S.1 S.2.1 hK hP 6 0 rfl rfl hi hdg kk
theorem Ms_8 {i x : Int32} (S : CallFix p m c cc nL s args Ts RX9) (hK : va_K D vwCl [(cI, .int), (cZ, .boolean)] s) (hP : va_P D vwCl (mw h cI cZ σ) H) (hD : va_D A (mw h cI cZ σ)) (hS : va_S A H0 H locs) (hi : ¬ (i < 0 ∨ 3528 ≤ i.toNatClampNeg)) (hdg : decode cc pc = .ok (.iastore, 1)) (kk : ∀ (H1 : Heap) (locs1 : List Loc), va_P D vwCl (mw h cI cZ (setA σ 8 (Int32.toNatClampNeg i) x)) H1 → va_D A (mw h cI cZ (setA σ 8 (Int32.toNatClampNeg i) x)) → va_S A H0 H1 locs1 → W p l e R s m args below meth c H1 locs1 cells slots Q (F0 m (pc + 1) ls rest)) : W p l e R s m args below meth c H locs cells slots Q (F0 m pc ls (.int x :: .int i :: .ref (h 8) :: rest)) :=
  va_iast S.1 S.2.1 hK hP hD hS 6 0 rfl rfl hi hdg kk
theorem Ml_10 {i : Int32} (S : CallFix p m c cc nL s args Ts RX9) (hK : va_K D vwCl [(cI, .int), (cZ, .boolean)] s) (hP : va_P D vwCl (mw h cI cZ σ) H) (hi : ¬ (i < 0 ∨ 500 ≤ i.toNatClampNeg)) (hdg : decode cc pc = .ok (.iaload, 1)) (kk : W p l e R s m args below meth c H locs cells slots Q (F0 m (pc + 1) ls (.int (σ.2 10 (Int32.toNatClampNeg i)) :: rest))) : W p l e R s m args below meth c H locs cells slots Q (F0 m pc ls (.int i :: .ref (h 10) :: rest)) :=
  va_iald S.1 S.2.1 hK hP 7 0 rfl rfl hi hdg kk
theorem Ms_10 {i x : Int32} (S : CallFix p m c cc nL s args Ts RX9) (hK : va_K D vwCl [(cI, .int), (cZ, .boolean)] s) (hP : va_P D vwCl (mw h cI cZ σ) H) (hD : va_D A (mw h cI cZ σ)) (hS : va_S A H0 H locs) (hi : ¬ (i < 0 ∨ 500 ≤ i.toNatClampNeg)) (hdg : decode cc pc = .ok (.iastore, 1)) (kk : ∀ (H1 : Heap) (locs1 : List Loc), va_P D vwCl (mw h cI cZ (setA σ 10 (Int32.toNatClampNeg i) x)) H1 → va_D A (mw h cI cZ (setA σ 10 (Int32.toNatClampNeg i) x)) → va_S A H0 H1 locs1 → W p l e R s m args below meth c H1 locs1 cells slots Q (F0 m (pc + 1) ls rest)) : W p l e R s m args below meth c H locs cells slots Q (F0 m pc ls (.int x :: .int i :: .ref (h 10) :: rest)) :=
  va_iast S.1 S.2.1 hK hP hD hS 7 0 rfl rfl hi hdg kk
theorem Ml_20 {i : Int32} (S : CallFix p m c cc nL s args Ts RX9) (hK : va_K D vwCl [(cI, .int), (cZ, .boolean)] s) (hP : va_P D vwCl (mw h cI cZ σ) H) (hi : ¬ (i < 0 ∨ 6 ≤ i.toNatClampNeg)) (hdg : decode cc pc = .ok (.iaload, 1)) (kk : W p l e R s m args below meth c H locs cells slots Q (F0 m (pc + 1) ls (.int (σ.2 20 (Int32.toNatClampNeg i)) :: rest))) : W p l e R s m args below meth c H locs cells slots Q (F0 m pc ls (.int i :: .ref (h 20) :: rest)) :=
  va_iald S.1 S.2.1 hK hP 8 0 rfl rfl hi hdg kk
theorem Ms_20 {i x : Int32} (S : CallFix p m c cc nL s args Ts RX9) (hK : va_K D vwCl [(cI, .int), (cZ, .boolean)] s) (hP : va_P D vwCl (mw h cI cZ σ) H) (hD : va_D A (mw h cI cZ σ)) (hS : va_S A H0 H locs) (hi : ¬ (i < 0 ∨ 6 ≤ i.toNatClampNeg)) (hdg : decode cc pc = .ok (.iastore, 1)) (kk : ∀ (H1 : Heap) (locs1 : List Loc), va_P D vwCl (mw h cI cZ (setA σ 20 (Int32.toNatClampNeg i) x)) H1 → va_D A (mw h cI cZ (setA σ 20 (Int32.toNatClampNeg i) x)) → va_S A H0 H1 locs1 → W p l e R s m args below meth c H1 locs1 cells slots Q (F0 m (pc + 1) ls rest)) : W p l e R s m args below meth c H locs cells slots Q (F0 m pc ls (.int x :: .int i :: .ref (h 20) :: rest)) :=
  va_iast S.1 S.2.1 hK hP hD hS 8 0 rfl rfl hi hdg kk
theorem Ml_21 {i : Int32} (S : CallFix p m c cc nL s args Ts RX9) (hK : va_K D vwCl [(cI, .int), (cZ, .boolean)] s) (hP : va_P D vwCl (mw h cI cZ σ) H) (hi : ¬ (i < 0 ∨ 6 ≤ i.toNatClampNeg)) (hdg : decode cc pc = .ok (.iaload, 1)) (kk : W p l e R s m args below meth c H locs cells slots Q (F0 m (pc + 1) ls (.int (σ.2 21 (Int32.toNatClampNeg i)) :: rest))) : W p l e R s m args below meth c H locs cells slots Q (F0 m pc ls (.int i :: .ref (h 21) :: rest)) :=
  va_iald S.1 S.2.1 hK hP 9 0 rfl rfl hi hdg kk
theorem Ms_21 {i x : Int32} (S : CallFix p m c cc nL s args Ts RX9) (hK : va_K D vwCl [(cI, .int), (cZ, .boolean)] s) (hP : va_P D vwCl (mw h cI cZ σ) H) (hD : va_D A (mw h cI cZ σ)) (hS : va_S A H0 H locs) (hi : ¬ (i < 0 ∨ 6 ≤ i.toNatClampNeg)) (hdg : decode cc pc = .ok (.iastore, 1)) (kk : ∀ (H1 : Heap) (locs1 : List Loc), va_P D vwCl (mw h cI cZ (setA σ 21 (Int32.toNatClampNeg i) x)) H1 → va_D A (mw h cI cZ (setA σ 21 (Int32.toNatClampNeg i) x)) → va_S A H0 H1 locs1 → W p l e R s m args below meth c H1 locs1 cells slots Q (F0 m (pc + 1) ls rest)) : W p l e R s m args below meth c H locs cells slots Q (F0 m pc ls (.int x :: .int i :: .ref (h 21) :: rest)) :=
  va_iast S.1 S.2.1 hK hP hD hS 9 0 rfl rfl hi hdg kk
theorem Ml_22 {i : Int32} (S : CallFix p m c cc nL s args Ts RX9) (hK : va_K D vwCl [(cI, .int), (cZ, .boolean)] s) (hP : va_P D vwCl (mw h cI cZ σ) H) (hi : ¬ (i < 0 ∨ 2 ≤ i.toNatClampNeg)) (hdg : decode cc pc = .ok (.baload, 1)) (kk : W p l e R s m args below meth c H locs cells slots Q (F0 m (pc + 1) ls (.int (σ.2 22 (Int32.toNatClampNeg i)) :: rest))) : W p l e R s m args below meth c H locs cells slots Q (F0 m pc ls (.int i :: .ref (h 22) :: rest)) :=
  va_zald S.1 S.2.1 hK hP 10 1 rfl rfl hi hdg kk
theorem Ms_22 {i x : Int32} (S : CallFix p m c cc nL s args Ts RX9) (hK : va_K D vwCl [(cI, .int), (cZ, .boolean)] s) (hP : va_P D vwCl (mw h cI cZ σ) H) (hD : va_D A (mw h cI cZ σ)) (hS : va_S A H0 H locs) (hi : ¬ (i < 0 ∨ 2 ≤ i.toNatClampNeg)) (hx : vp_nar .boolean x = x) (hdg : decode cc pc = .ok (.bastore, 1)) (kk : ∀ (H1 : Heap) (locs1 : List Loc), va_P D vwCl (mw h cI cZ (setA σ 22 (Int32.toNatClampNeg i) x)) H1 → va_D A (mw h cI cZ (setA σ 22 (Int32.toNatClampNeg i) x)) → va_S A H0 H1 locs1 → W p l e R s m args below meth c H1 locs1 cells slots Q (F0 m (pc + 1) ls rest)) : W p l e R s m args below meth c H locs cells slots Q (F0 m pc ls (.int x :: .int i :: .ref (h 22) :: rest)) := by
  refine va_zast S.1 S.2.1 hK hP hD hS 10 1 rfl rfl hi hdg ?_
  rw [hx]
  exact kk
theorem Ml_23 {i : Int32} (S : CallFix p m c cc nL s args Ts RX9) (hK : va_K D vwCl [(cI, .int), (cZ, .boolean)] s) (hP : va_P D vwCl (mw h cI cZ σ) H) (hi : ¬ (i < 0 ∨ 294 ≤ i.toNatClampNeg)) (hdg : decode cc pc = .ok (.iaload, 1)) (kk : W p l e R s m args below meth c H locs cells slots Q (F0 m (pc + 1) ls (.int (σ.2 23 (Int32.toNatClampNeg i)) :: rest))) : W p l e R s m args below meth c H locs cells slots Q (F0 m pc ls (.int i :: .ref (h 23) :: rest)) :=
  va_iald S.1 S.2.1 hK hP 11 0 rfl rfl hi hdg kk
theorem Ms_23 {i x : Int32} (S : CallFix p m c cc nL s args Ts RX9) (hK : va_K D vwCl [(cI, .int), (cZ, .boolean)] s) (hP : va_P D vwCl (mw h cI cZ σ) H) (hD : va_D A (mw h cI cZ σ)) (hS : va_S A H0 H locs) (hi : ¬ (i < 0 ∨ 294 ≤ i.toNatClampNeg)) (hdg : decode cc pc = .ok (.iastore, 1)) (kk : ∀ (H1 : Heap) (locs1 : List Loc), va_P D vwCl (mw h cI cZ (setA σ 23 (Int32.toNatClampNeg i) x)) H1 → va_D A (mw h cI cZ (setA σ 23 (Int32.toNatClampNeg i) x)) → va_S A H0 H1 locs1 → W p l e R s m args below meth c H1 locs1 cells slots Q (F0 m (pc + 1) ls rest)) : W p l e R s m args below meth c H locs cells slots Q (F0 m pc ls (.int x :: .int i :: .ref (h 23) :: rest)) :=
  va_iast S.1 S.2.1 hK hP hD hS 11 0 rfl rfl hi hdg kk
theorem Ml_24 {i : Int32} (S : CallFix p m c cc nL s args Ts RX9) (hK : va_K D vwCl [(cI, .int), (cZ, .boolean)] s) (hP : va_P D vwCl (mw h cI cZ σ) H) (hi : ¬ (i < 0 ∨ 16 ≤ i.toNatClampNeg)) (hdg : decode cc pc = .ok (.iaload, 1)) (kk : W p l e R s m args below meth c H locs cells slots Q (F0 m (pc + 1) ls (.int (σ.2 24 (Int32.toNatClampNeg i)) :: rest))) : W p l e R s m args below meth c H locs cells slots Q (F0 m pc ls (.int i :: .ref (h 24) :: rest)) :=
  va_iald S.1 S.2.1 hK hP 12 0 rfl rfl hi hdg kk
theorem Ms_24 {i x : Int32} (S : CallFix p m c cc nL s args Ts RX9) (hK : va_K D vwCl [(cI, .int), (cZ, .boolean)] s) (hP : va_P D vwCl (mw h cI cZ σ) H) (hD : va_D A (mw h cI cZ σ)) (hS : va_S A H0 H locs) (hi : ¬ (i < 0 ∨ 16 ≤ i.toNatClampNeg)) (hdg : decode cc pc = .ok (.iastore, 1)) (kk : ∀ (H1 : Heap) (locs1 : List Loc), va_P D vwCl (mw h cI cZ (setA σ 24 (Int32.toNatClampNeg i) x)) H1 → va_D A (mw h cI cZ (setA σ 24 (Int32.toNatClampNeg i) x)) → va_S A H0 H1 locs1 → W p l e R s m args below meth c H1 locs1 cells slots Q (F0 m (pc + 1) ls rest)) : W p l e R s m args below meth c H locs cells slots Q (F0 m pc ls (.int x :: .int i :: .ref (h 24) :: rest)) :=
  va_iast S.1 S.2.1 hK hP hD hS 12 0 rfl rfl hi hdg kk
end MF
end
section
def FM_in (a0 : Int64) (a2 : Int64) (a4 : Int64) : Option Int32 :=
  if (lg_cmp a0 a2) < 0 then (some 0) else (if 0 < (lg_cmp a0 a4) then (some 0) else (some 1))
set_option maxHeartbeats 4000000 in
set_option maxRecDepth 100000 in
theorem kM_in (l : Launch) (D : va_G) (tys : List (ClassId × FieldType)) (w0 : va_W) (a0 : Int64) (a2 : Int64) (a4 : Int64) (r : Int32) (hf : FM_in a0 a2 a4 = some r) : KK l D tys yX9_in wsX9_in 0 0 [.long a0, .long a2, .long a4] w0 (some (.int r)) w0 := by
  refine KK.ofZ (own := RX9) (cc := cX9_in) (maxL := 6) (by decide) rfl rfl (Nat.le_of_ble_eq_true rfl) ?_
  intro p e s m args below meth c R Q A ls S hRf hRl hK hA hP hD hS hl hret
  obtain ⟨hx, hb, hml, hown, hts⟩ := id S
  have hl : lv_has ls 6 [(0, .long a0), (2, .long a2), (4, .long a4)] := hl
  have hre : ∀ (x : Int32) (pc : Nat) (ls : Array Slot) (H : Heap) (locs : List Loc), (some x : Option Int32) = some r → va_P D vwCl w0 H → va_D A w0 → va_S A s.heap H locs → decode cX9_in pc = .ok (.ireturn, 1) → narrow .boolean (.int x) = .int x → W p l e R s m args below meth c H locs 0 0 Q (F0 m pc ls [.int x]) := by intro x pc ls H locs he; cases he; exact hret pc ls H locs
  unfold FM_in at hf
  refine lv_lload_n hx hb dX9_in_0 rfl (lv_at hl 0 rfl) ?_
  refine lv_lload_n hx hb dX9_in_1 rfl (lv_at hl 1 rfl) ?_
  refine W.lcmp hx hb dX9_in_2 ?_
  refine lv_if_lt (tgt := 17) hx hb dX9_in_3 (by decide) (fun c1 => ?_) (fun c1 => ?_)
  · have hf := (if_pos c1).symm.trans hf
    refine lv_iconst (v := 0) hx hb dX9_in_17 (by decide) ?_
    exact hre _ _ _ _ _ hf hP hD hS dX9_in_18 rfl
  · have hf := (if_neg c1).symm.trans hf
    refine lv_lload_n hx hb dX9_in_6 rfl (lv_at hl 0 rfl) ?_
    refine lv_lload hx hb dX9_in_7 (lv_at hl 2 rfl) ?_
    refine W.lcmp hx hb dX9_in_9 ?_
    refine lv_if_gt (tgt := 17) hx hb dX9_in_10 (by decide) (fun c2 => ?_) (fun c2 => ?_)
    · have hf := (if_pos c2).symm.trans hf
      refine lv_iconst (v := 0) hx hb dX9_in_17 (by decide) ?_
      exact hre _ _ _ _ _ hf hP hD hS dX9_in_18 rfl
    · have hf := (if_neg c2).symm.trans hf
      refine lv_iconst (v := 1) hx hb dX9_in_13 (by decide) ?_
      refine lv_goto (tgt := 18) hx hb dX9_in_14 (by decide) ?_
      exact hre _ _ _ _ _ hf hP hD hS dX9_in_18 rfl
def FM_finding (σ : MS) (a1 : Int32) : Option (Int32 × MS) :=
  nm (setF σ 1 a1) fun (σ1 : MS) => some (((-1000010) - a1), σ1)
set_option maxHeartbeats 4000000 in
set_option maxRecDepth 100000 in
theorem kM_finding (l : Launch) (D : va_G) (h : Nat → Nat) (cI cZ : ClassId) (σ : MS) (a1 : Int32) (r : Int32) (σ' : MS) (hf : FM_finding σ a1 = some (r, σ')) : KK l D [(cI, .int), (cZ, .boolean)] yX9_finding wsX9_finding 0 0 [.ref (h 0), .int a1] (mw h cI cZ σ) (some (.int r)) (mw h cI cZ σ') := by
  refine KK.ofI (own := RX9) (cc := cX9_finding) (maxL := 2) (by decide) rfl rfl (Nat.le_of_ble_eq_true rfl) ?_
  intro p e s m args below meth c R Q A ls S hRf hRl hK hA hP hD hS hl hret
  obtain ⟨hx, hb, hml, hown, hts⟩ := id S
  have hin : ∀ w ∈ wsX90, w ∈ wsX9_finding := fun w hw => List.mem_cons_of_mem _ (List.mem_append_right _ hw)
  have f51 := hts (.fieldLink RX9 51 "PenniesAwayModel" "status" "I") (by decide +kernel)
  have c54 := hts (.constant RX9 54 (-1000010)) (by decide +kernel)
  have hl : lv_has ls 2 [(0, .ref (h 0)), (1, .int a1)] := hl
  have hre : ∀ (x : Int32) (σx : MS) (pc : Nat) (ls : Array Slot) (H : Heap) (locs : List Loc), (some (x, σx) : Option (Int32 × MS)) = some (r, σ') → va_P D vwCl (mw h cI cZ σx) H → va_D A (mw h cI cZ σx) → va_S A s.heap H locs → decode cX9_finding pc = .ok (.ireturn, 1) → W p l e R s m args below meth c H locs 0 0 Q (F0 m pc ls [.int x]) := by intro x σx pc ls H locs he; cases he; exact hret pc ls H locs
  unfold FM_finding at hf
  refine lv_aload_n hx hb dX9_finding_0 rfl (lv_at hl 0 rfl) ?_
  refine lv_iload_n hx hb dX9_finding_1 rfl (lv_at hl 1 rfl) ?_
  refine Mp_1 S hin hK hP hD hS f51 dX9_finding_2 (fun H locs hP hD hS => ?_)
  obtain ⟨σ1, eσ1, hf⟩ := nm_some hf
  rw [← eσ1] at hP hD
  refine lv_ldc (v := (-1000010)) hx hb hown c54 dX9_finding_5 ?_
  refine lv_iload_n hx hb dX9_finding_7 rfl (lv_at hl 1 rfl) ?_
  refine lv_isub hx hb dX9_finding_8 ?_
  exact hre _ _ _ _ _ _ hf hP hD hS dX9_finding_9
def FM_isRow (a0 : Int32) : Option Int32 :=
  Option.bind (FM_in (Int32.toInt64 a0) 0 7) fun (r1 : Int32) => gd (r1 = 0 ∨ r1 = 1) (some r1)
set_option maxHeartbeats 4000000 in
set_option maxRecDepth 100000 in
theorem kM_isRow (l : Launch) (D : va_G) (tys : List (ClassId × FieldType)) (w0 : va_W) (a0 : Int32) (r : Int32) (hf : FM_isRow a0 = some r) : KK l D tys yX9_isRow wsX9_isRow 1 25 [.int a0] w0 (some (.int r)) w0 := by
  refine KK.ofZ (own := RX9) (cc := cX9_isRow) (maxL := 1) (by decide) rfl rfl (Nat.le_of_ble_eq_true rfl) ?_
  intro p e s m args below meth c R Q A ls S hRf hRl hK hA hP hD hS hl hret
  obtain ⟨hx, hb, hml, hown, hts⟩ := id S
  have c55 := hts (.constantLong RX9 55 (7)) (by decide +kernel)
  have hl : lv_has ls 1 [(0, .int a0)] := hl
  have hre : ∀ (x : Int32) (pc : Nat) (ls : Array Slot) (H : Heap) (locs : List Loc), (some x : Option Int32) = some r → va_P D vwCl w0 H → va_D A w0 → va_S A s.heap H locs → decode cX9_isRow pc = .ok (.ireturn, 1) → narrow .boolean (.int x) = .int x → W p l e R s m args below meth c H locs 0 0 Q (F0 m pc ls [.int x]) := by intro x pc ls H locs he; cases he; exact hret pc ls H locs
  unfold FM_isRow at hf
  refine lv_iload_n hx hb dX9_isRow_0 rfl (lv_at hl 0 rfl) ?_
  refine lv_i2l hx hb dX9_isRow_1 rfl ?_
  refine lv_lconst (v := 0) hx hb dX9_isRow_2 (by decide) ?_
  refine lv_ldc2 (v := 7) hx hb hown c55 dX9_isRow_3 ?_
  obtain ⟨r1, hr1, hf⟩ := bi_some hf
  refine kc_s (n := 3) S hRf hRl hK hA hP hD hS hl [.long (Int32.toInt64 a0), .long 0, .long 7] [] (kM_in l D _ _ (Int32.toInt64 a0) 0 7 r1 hr1) gX9_isRow_X9_in rfl (by decide +kernel) rfl ⟨by decide, by decide⟩ rfl (Nat.le_of_ble_eq_true rfl) dX9_isRow_6 (fun H locs hP hD hS => ?_)
  refine W.eq (g2 := F0 m 9 ls [.int r1]) rfl ?_
  obtain ⟨g2, hf⟩ := gd_some hf
  exact hre _ _ _ _ _ hf hP hD hS dX9_isRow_9 (by rcases g2 with g2 | g2 <;> (rw [g2]; rfl))
def FM_row_65  : Nat → MS → Int32 → Int32 → Int32 → Option (Int32 × MS)
  | 0, _, _, _, _ => none
  | n + 1, σ, l1, l3, l4 => if 40 ≤ l4 then (some (l3, σ)) else (gd (¬ (((40 * l1) + l4) < 0 ∨ 320 ≤ Int32.toNatClampNeg ((40 * l1) + l4))) (nm (setA σ 4 (Int32.toNatClampNeg ((40 * l1) + l4)) 0) fun (σ17 : MS) => nm (l4 + 1) fun (x18 : Int32) => (FM_row_65 n) σ17 l1 l3 x18))
def FM_row (σ : MS) (a1 : Int32) (a2 : Int32) (a3 : Int32) : Option (Int32 × MS) :=
  nm (setF σ 0 0) fun (σ1 : MS) => Option.bind (FM_isRow a1) fun (r2 : Int32) => if r2 = 0 then (some ((-1000001), σ1)) else (Option.bind (FM_in (Int32.toInt64 a2) 0 2) fun (r4 : Int32) => if r4 = 0 then (some ((-1000001), σ1)) else (if a3 ≤ 40 then (nm (setF σ1 1 0) fun (σ7 : MS) => if 0 ≤ a3 then (gd (¬ (a1 < 0 ∨ 8 ≤ Int32.toNatClampNeg a1)) (nm (setA σ7 2 (Int32.toNatClampNeg a1) a2) fun (σ10 : MS) => gd (¬ (a1 < 0 ∨ 8 ≤ Int32.toNatClampNeg a1)) (nm (setA σ10 3 (Int32.toNatClampNeg a1) a3) fun (σ12 : MS) => FM_row_65 fuelN σ12 a1 a3 0))) else (bd2 (FM_finding σ7 4) fun (r13 : Int32) (σ14 : MS) => some (r13, σ14))) else (some ((-1000001), σ1))))
set_option maxHeartbeats 4000000 in
set_option maxRecDepth 100000 in
theorem kM_row (l : Launch) (D : va_G) (h : Nat → Nat) (cI cZ : ClassId) (σ : MS) (a1 : Int32) (a2 : Int32) (a3 : Int32) (r : Int32) (σ' : MS) (hf : FM_row σ a1 a2 a3 = some (r, σ')) : KK l D [(cI, .int), (cZ, .boolean)] yX9_row wsX9_row 2 45 [.ref (h 0), .int a1, .int a2, .int a3] (mw h cI cZ σ) (some (.int r)) (mw h cI cZ σ') := by
  refine KK.ofI (own := RX9) (cc := cX9_row) (maxL := 5) (by decide) rfl rfl (Nat.le_of_ble_eq_true rfl) ?_
  intro p e s m args below meth c R Q A ls S hRf hRl hK hA hP hD hS hl hret
  obtain ⟨hx, hb, hml, hown, hts⟩ := id S
  have hin : ∀ w ∈ wsX90, w ∈ wsX9_row := fun w hw => List.mem_cons_of_mem _ (List.mem_append_right _ hw)
  have f47 := hts (.fieldLink RX9 47 "PenniesAwayModel" "thrown" "I") (by decide +kernel)
  have c67 := hts (.constant RX9 67 (-1000001)) (by decide +kernel)
  have c65 := hts (.constantLong RX9 65 (2)) (by decide +kernel)
  have f51 := hts (.fieldLink RX9 51 "PenniesAwayModel" "status" "I") (by decide +kernel)
  have f7 := hts (.fieldLink RX9 7 "PenniesAwayModel" "lane" "[I") (by decide +kernel)
  have f13 := hts (.fieldLink RX9 13 "PenniesAwayModel" "many" "[I") (by decide +kernel)
  have f16 := hts (.fieldLink RX9 16 "PenniesAwayModel" "item" "[I") (by decide +kernel)
  have hl : lv_has ls 5 [(0, .ref (h 0)), (1, .int a1), (2, .int a2), (3, .int a3)] := hl
  have hre : ∀ (x : Int32) (σx : MS) (pc : Nat) (ls : Array Slot) (H : Heap) (locs : List Loc), (some (x, σx) : Option (Int32 × MS)) = some (r, σ') → va_P D vwCl (mw h cI cZ σx) H → va_D A (mw h cI cZ σx) → va_S A s.heap H locs → decode cX9_row pc = .ok (.ireturn, 1) → W p l e R s m args below meth c H locs 0 0 Q (F0 m pc ls [.int x]) := by intro x σx pc ls H locs he; cases he; exact hret pc ls H locs
  have b65 : ∀ (n : Nat), ∀ (σ : MS) (l1 : Int32) (l3 : Int32) (l4 : Int32) (ls : Array Slot) (H : Heap) (locs : List Loc), FM_row_65 n σ l1 l3 l4 = some (r, σ') → lv_has ls 5 [(0, .ref (h 0)), (1, .int l1), (3, .int l3), (4, .int l4)] → va_P D vwCl (mw h cI cZ σ) H → va_D A (mw h cI cZ σ) → va_S A s.heap H locs → W p l e R s m args below meth c H locs 0 0 Q (F0 m 65 ls []) := by
    intro n
    induction n with
    | zero => intro σ l1 l3 l4 ls H locs hf; exact absurd hf (by simp [FM_row_65])
    | succ n ih =>
      intro σ l1 l3 l4 ls H locs hf hl hP hD hS
      rw [FM_row_65] at hf
      refine lv_iload hx hb dX9_row_65 (lv_at hl 3 rfl) ?_
      refine lv_bipush (v := 40) hx hb dX9_row_67 (by decide) ?_
      refine lv_icmp_ge (tgt := 91) hx hb dX9_row_69 (by decide) (fun c15 => ?_) (fun c15 => ?_)
      · have hf := (if_pos c15).symm.trans hf
        refine lv_iload_n hx hb dX9_row_91 rfl (lv_at hl 2 rfl) ?_
        exact hre _ _ _ _ _ _ hf hP hD hS dX9_row_92
      · have hf := (if_neg c15).symm.trans hf
        refine lv_aload_n hx hb dX9_row_72 rfl (lv_at hl 0 rfl) ?_
        refine Mg_4 S hin hK hP f16 dX9_row_73 ?_
        refine lv_bipush (v := 40) hx hb dX9_row_76 (by decide) ?_
        refine lv_iload_n hx hb dX9_row_78 rfl (lv_at hl 1 rfl) ?_
        refine lv_imul hx hb dX9_row_79 ?_
        refine lv_iload hx hb dX9_row_80 (lv_at hl 3 rfl) ?_
        refine lv_iadd hx hb dX9_row_82 ?_
        refine lv_iconst (v := 0) hx hb dX9_row_83 (by decide) ?_
        obtain ⟨g16, hf⟩ := gd_some hf
        refine Ms_4 S hK hP hD hS g16 dX9_row_84 (fun H locs hP hD hS => ?_)
        obtain ⟨σ17, eσ17, hf⟩ := nm_some hf
        rw [← eσ17] at hP hD
        obtain ⟨x18, ex18, hf⟩ := nm_some hf
        refine lv_iinc (v := x18) (lv' := [(4, .int x18), (0, .ref (h 0)), (1, .int l1), (3, .int l3)]) hx hb dX9_row_85 hl (k := 3) rfl (by rw [ex18]; rfl) (by decide) rfl (fun ls hl => ?_)
        refine lv_goto (tgt := 65) hx hb dX9_row_88 (by decide) ?_
        exact ih _ _ _ _ _ _ _ hf (lv_sub hl [1, 2, 3, 0] rfl) hP hD hS
  unfold FM_row at hf
  refine lv_aload_n hx hb dX9_row_0 rfl (lv_at hl 0 rfl) ?_
  refine lv_iconst (v := 0) hx hb dX9_row_1 (by decide) ?_
  refine Mp_0 S hin hK hP hD hS f47 dX9_row_2 (fun H locs hP hD hS => ?_)
  obtain ⟨σ1, eσ1, hf⟩ := nm_some hf
  rw [← eσ1] at hP hD
  refine lv_iload_n hx hb dX9_row_5 rfl (lv_at hl 1 rfl) ?_
  obtain ⟨r2, hr2, hf⟩ := bi_some hf
  refine kc_s (n := 1) S hRf hRl hK hA hP hD hS hl [.int a1] [] (kM_isRow l D _ _ a1 r2 hr2) gX9_row_X9_isRow rfl (by decide +kernel) rfl ⟨by decide, by decide⟩ rfl (Nat.le_of_ble_eq_true rfl) dX9_row_6 (fun H locs hP hD hS => ?_)
  refine W.eq (g2 := F0 m 9 ls [.int r2]) rfl ?_
  refine lv_if_eq (tgt := 30) hx hb dX9_row_9 (by decide) (fun c3 => ?_) (fun c3 => ?_)
  · have hf := (if_pos c3).symm.trans hf
    refine lv_ldc (v := (-1000001)) hx hb hown c67 dX9_row_30 ?_
    exact hre _ _ _ _ _ _ hf hP hD hS dX9_row_32
  · have hf := (if_neg c3).symm.trans hf
    refine lv_iload_n hx hb dX9_row_12 rfl (lv_at hl 2 rfl) ?_
    refine lv_i2l hx hb dX9_row_13 rfl ?_
    refine lv_lconst (v := 0) hx hb dX9_row_14 (by decide) ?_
    refine lv_ldc2 (v := 2) hx hb hown c65 dX9_row_15 ?_
    obtain ⟨r4, hr4, hf⟩ := bi_some hf
    refine kc_s (n := 3) S hRf hRl hK hA hP hD hS hl [.long (Int32.toInt64 a2), .long 0, .long 2] [] (kM_in l D _ _ (Int32.toInt64 a2) 0 2 r4 hr4) gX9_row_X9_in rfl (by decide +kernel) rfl ⟨by decide, by decide⟩ rfl (Nat.le_of_ble_eq_true rfl) dX9_row_18 (fun H locs hP hD hS => ?_)
    refine W.eq (g2 := F0 m 21 ls [.int r4]) rfl ?_
    refine lv_if_eq (tgt := 30) hx hb dX9_row_21 (by decide) (fun c5 => ?_) (fun c5 => ?_)
    · have hf := (if_pos c5).symm.trans hf
      refine lv_ldc (v := (-1000001)) hx hb hown c67 dX9_row_30 ?_
      exact hre _ _ _ _ _ _ hf hP hD hS dX9_row_32
    · have hf := (if_neg c5).symm.trans hf
      refine lv_iload_n hx hb dX9_row_24 rfl (lv_at hl 3 rfl) ?_
      refine lv_bipush (v := 40) hx hb dX9_row_25 (by decide) ?_
      refine lv_icmp_le (tgt := 33) hx hb dX9_row_27 (by decide) (fun c6 => ?_) (fun c6 => ?_)
      · have hf := (if_pos c6).symm.trans hf
        refine lv_aload_n hx hb dX9_row_33 rfl (lv_at hl 0 rfl) ?_
        refine lv_iconst (v := 0) hx hb dX9_row_34 (by decide) ?_
        refine Mp_1 S hin hK hP hD hS f51 dX9_row_35 (fun H locs hP hD hS => ?_)
        obtain ⟨σ7, eσ7, hf⟩ := nm_some hf
        rw [← eσ7] at hP hD
        refine lv_iload_n hx hb dX9_row_38 rfl (lv_at hl 3 rfl) ?_
        refine lv_if_ge (tgt := 48) hx hb dX9_row_39 (by decide) (fun c8 => ?_) (fun c8 => ?_)
        · have hf := (if_pos c8).symm.trans hf
          refine lv_aload_n hx hb dX9_row_48 rfl (lv_at hl 0 rfl) ?_
          refine Mg_2 S hin hK hP f7 dX9_row_49 ?_
          refine lv_iload_n hx hb dX9_row_52 rfl (lv_at hl 1 rfl) ?_
          refine lv_iload_n hx hb dX9_row_53 rfl (lv_at hl 2 rfl) ?_
          obtain ⟨g9, hf⟩ := gd_some hf
          refine Ms_2 S hK hP hD hS g9 dX9_row_54 (fun H locs hP hD hS => ?_)
          obtain ⟨σ10, eσ10, hf⟩ := nm_some hf
          rw [← eσ10] at hP hD
          refine lv_aload_n hx hb dX9_row_55 rfl (lv_at hl 0 rfl) ?_
          refine Mg_3 S hin hK hP f13 dX9_row_56 ?_
          refine lv_iload_n hx hb dX9_row_59 rfl (lv_at hl 1 rfl) ?_
          refine lv_iload_n hx hb dX9_row_60 rfl (lv_at hl 3 rfl) ?_
          obtain ⟨g11, hf⟩ := gd_some hf
          refine Ms_3 S hK hP hD hS g11 dX9_row_61 (fun H locs hP hD hS => ?_)
          obtain ⟨σ12, eσ12, hf⟩ := nm_some hf
          rw [← eσ12] at hP hD
          refine lv_iconst (v := 0) hx hb dX9_row_62 (by decide) ?_
          refine lv_istore (lv' := [(4, .int 0), (0, .ref (h 0)), (1, .int a1), (2, .int a2), (3, .int a3)]) hx hb dX9_row_63 hl (by decide) rfl (fun ls hl => ?_)
          exact b65 fuelN _ _ _ _ _ _ _ hf (lv_sub hl [1, 2, 4, 0] rfl) hP hD hS
        · have hf := (if_neg c8).symm.trans hf
          refine lv_aload_n hx hb dX9_row_42 rfl (lv_at hl 0 rfl) ?_
          refine lv_iconst (v := 4) hx hb dX9_row_43 (by decide) ?_
          obtain ⟨r13, σ14, hr13, hf⟩ := bd2_some hf
          refine kc_v (ci := 8) (q0 := 0) (n := 1) S hRf hRl hK hA hP hD hS hl [.int 4] [] (kM_finding l D h cI cZ σ7 4 r13 σ14 hr13) gX9_row_X9_finding rfl (by decide +kernel) rfl ⟨by decide, by decide⟩ rfl rfl rfl rfl (Nat.le_of_ble_eq_true rfl) dX9_row_44 (fun H locs hP hD hS => ?_)
          refine W.eq (g2 := F0 m 47 ls [.int r13]) rfl ?_
          exact hre _ _ _ _ _ _ hf hP hD hS dX9_row_47
      · have hf := (if_neg c6).symm.trans hf
        refine lv_ldc (v := (-1000001)) hx hb hown c67 dX9_row_30 ?_
        exact hre _ _ _ _ _ _ hf hP hD hS dX9_row_32
def FM_set_99 (σ : MS) (l1 : Int32) (l2 : Int32) (s0 : Int32) (s1 : Int32) : Option (Int32 × MS) :=
  gd (¬ (s1 < 0 ∨ 320 ≤ Int32.toNatClampNeg s1)) (nm (setA σ 4 (Int32.toNatClampNeg s1) s0) fun (σ19 : MS) => gd (¬ (((40 * l1) + l2) < 0 ∨ 320 ≤ Int32.toNatClampNeg ((40 * l1) + l2))) (some ((σ19.2 4 (Int32.toNatClampNeg ((40 * l1) + l2))), σ19)))
def FM_set (σ : MS) (a1 : Int32) (a2 : Int32) (a3 : Int32) : Option (Int32 × MS) :=
  nm (setF σ 0 0) fun (σ1 : MS) => Option.bind (FM_isRow a1) fun (r2 : Int32) => if r2 = 0 then (some ((-1000001), σ1)) else (nm (setF σ1 1 0) fun (σ4 : MS) => gd (¬ (a1 < 0 ∨ 8 ≤ Int32.toNatClampNeg a1)) (if 0 ≤ (σ4.2 2 (Int32.toNatClampNeg a1)) then (gd (¬ (a1 < 0 ∨ 8 ≤ Int32.toNatClampNeg a1)) (Option.bind (FM_in (Int32.toInt64 a2) 0 (Int32.toInt64 ((σ4.2 3 (Int32.toNatClampNeg a1)) - 1))) fun (r8 : Int32) => if r8 = 0 then (bd2 (FM_finding σ4 2) fun (r14 : Int32) (σ15 : MS) => some (r14, σ15)) else (gd (¬ (a1 < 0 ∨ 8 ≤ Int32.toNatClampNeg a1)) (if (σ4.2 2 (Int32.toNatClampNeg a1)) = 0 then (FM_set_99 σ4 a1 a2 ((Int32.toInt8 a3).toInt32) ((40 * a1) + a2)) else (gd (¬ (a1 < 0 ∨ 8 ≤ Int32.toNatClampNeg a1)) (if (σ4.2 2 (Int32.toNatClampNeg a1)) = 1 then (FM_set_99 σ4 a1 a2 ((Int32.toInt16 a3).toInt32) ((40 * a1) + a2)) else (FM_set_99 σ4 a1 a2 a3 ((40 * a1) + a2)))))))) else (bd2 (FM_finding σ4 1) fun (r16 : Int32) (σ17 : MS) => some (r16, σ17))))
set_option maxHeartbeats 4000000 in
set_option maxRecDepth 100000 in
theorem kM_set (l : Launch) (D : va_G) (h : Nat → Nat) (cI cZ : ClassId) (σ : MS) (a1 : Int32) (a2 : Int32) (a3 : Int32) (r : Int32) (σ' : MS) (hf : FM_set σ a1 a2 a3 = some (r, σ')) : KK l D [(cI, .int), (cZ, .boolean)] yX9_set wsX9_set 2 45 [.ref (h 0), .int a1, .int a2, .int a3] (mw h cI cZ σ) (some (.int r)) (mw h cI cZ σ') := by
  refine KK.ofI (own := RX9) (cc := cX9_set) (maxL := 4) (by decide) rfl rfl (Nat.le_of_ble_eq_true rfl) ?_
  intro p e s m args below meth c R Q A ls S hRf hRl hK hA hP hD hS hl hret
  obtain ⟨hx, hb, hml, hown, hts⟩ := id S
  have hin : ∀ w ∈ wsX90, w ∈ wsX9_set := fun w hw => List.mem_cons_of_mem _ (List.mem_append_right _ hw)
  have f47 := hts (.fieldLink RX9 47 "PenniesAwayModel" "thrown" "I") (by decide +kernel)
  have f51 := hts (.fieldLink RX9 51 "PenniesAwayModel" "status" "I") (by decide +kernel)
  have f7 := hts (.fieldLink RX9 7 "PenniesAwayModel" "lane" "[I") (by decide +kernel)
  have f13 := hts (.fieldLink RX9 13 "PenniesAwayModel" "many" "[I") (by decide +kernel)
  have f16 := hts (.fieldLink RX9 16 "PenniesAwayModel" "item" "[I") (by decide +kernel)
  have c67 := hts (.constant RX9 67 (-1000001)) (by decide +kernel)
  have hl : lv_has ls 4 [(0, .ref (h 0)), (1, .int a1), (2, .int a2), (3, .int a3)] := hl
  have hre : ∀ (x : Int32) (σx : MS) (pc : Nat) (ls : Array Slot) (H : Heap) (locs : List Loc), (some (x, σx) : Option (Int32 × MS)) = some (r, σ') → va_P D vwCl (mw h cI cZ σx) H → va_D A (mw h cI cZ σx) → va_S A s.heap H locs → decode cX9_set pc = .ok (.ireturn, 1) → W p l e R s m args below meth c H locs 0 0 Q (F0 m pc ls [.int x]) := by intro x σx pc ls H locs he; cases he; exact hret pc ls H locs
  have b99 : ∀ (σ : MS) (l1 : Int32) (l2 : Int32) (s0 : Int32) (s1 : Int32) (ls : Array Slot) (H : Heap) (locs : List Loc), FM_set_99 σ l1 l2 s0 s1 = some (r, σ') → lv_has ls 4 [(0, .ref (h 0)), (1, .int l1), (2, .int l2)] → va_P D vwCl (mw h cI cZ σ) H → va_D A (mw h cI cZ σ) → va_S A s.heap H locs → W p l e R s m args below meth c H locs 0 0 Q (F0 m 99 ls [.int s0, .int s1, .ref (h 4)]) := by
    intro σ l1 l2 s0 s1 ls H locs hf hl hP hD hS
    unfold FM_set_99 at hf
    obtain ⟨g18, hf⟩ := gd_some hf
    refine Ms_4 S hK hP hD hS g18 dX9_set_99 (fun H locs hP hD hS => ?_)
    obtain ⟨σ19, eσ19, hf⟩ := nm_some hf
    rw [← eσ19] at hP hD
    refine lv_aload_n hx hb dX9_set_100 rfl (lv_at hl 0 rfl) ?_
    refine Mg_4 S hin hK hP f16 dX9_set_101 ?_
    refine lv_bipush (v := 40) hx hb dX9_set_104 (by decide) ?_
    refine lv_iload_n hx hb dX9_set_106 rfl (lv_at hl 1 rfl) ?_
    refine lv_imul hx hb dX9_set_107 ?_
    refine lv_iload_n hx hb dX9_set_108 rfl (lv_at hl 2 rfl) ?_
    refine lv_iadd hx hb dX9_set_109 ?_
    obtain ⟨g20, hf⟩ := gd_some hf
    refine Ml_4 S hK hP g20 dX9_set_110 ?_
    exact hre _ _ _ _ _ _ hf hP hD hS dX9_set_111
  unfold FM_set at hf
  refine lv_aload_n hx hb dX9_set_0 rfl (lv_at hl 0 rfl) ?_
  refine lv_iconst (v := 0) hx hb dX9_set_1 (by decide) ?_
  refine Mp_0 S hin hK hP hD hS f47 dX9_set_2 (fun H locs hP hD hS => ?_)
  obtain ⟨σ1, eσ1, hf⟩ := nm_some hf
  rw [← eσ1] at hP hD
  refine lv_iload_n hx hb dX9_set_5 rfl (lv_at hl 1 rfl) ?_
  obtain ⟨r2, hr2, hf⟩ := bi_some hf
  refine kc_s (n := 1) S hRf hRl hK hA hP hD hS hl [.int a1] [] (kM_isRow l D _ _ a1 r2 hr2) gX9_set_X9_isRow rfl (by decide +kernel) rfl ⟨by decide, by decide⟩ rfl (Nat.le_of_ble_eq_true rfl) dX9_set_6 (fun H locs hP hD hS => ?_)
  refine W.eq (g2 := F0 m 9 ls [.int r2]) rfl ?_
  refine lv_if_ne (tgt := 15) hx hb dX9_set_9 (by decide) (fun c3 => ?_) (fun c3 => ?_)
  · have hf := (if_neg c3).symm.trans hf
    refine lv_aload_n hx hb dX9_set_15 rfl (lv_at hl 0 rfl) ?_
    refine lv_iconst (v := 0) hx hb dX9_set_16 (by decide) ?_
    refine Mp_1 S hin hK hP hD hS f51 dX9_set_17 (fun H locs hP hD hS => ?_)
    obtain ⟨σ4, eσ4, hf⟩ := nm_some hf
    rw [← eσ4] at hP hD
    refine lv_aload_n hx hb dX9_set_20 rfl (lv_at hl 0 rfl) ?_
    refine Mg_2 S hin hK hP f7 dX9_set_21 ?_
    refine lv_iload_n hx hb dX9_set_24 rfl (lv_at hl 1 rfl) ?_
    obtain ⟨g5, hf⟩ := gd_some hf
    refine Ml_2 S hK hP g5 dX9_set_25 ?_
    refine lv_if_ge (tgt := 35) hx hb dX9_set_26 (by decide) (fun c6 => ?_) (fun c6 => ?_)
    · have hf := (if_pos c6).symm.trans hf
      refine lv_iload_n hx hb dX9_set_35 rfl (lv_at hl 2 rfl) ?_
      refine lv_i2l hx hb dX9_set_36 rfl ?_
      refine lv_lconst (v := 0) hx hb dX9_set_37 (by decide) ?_
      refine lv_aload_n hx hb dX9_set_38 rfl (lv_at hl 0 rfl) ?_
      refine Mg_3 S hin hK hP f13 dX9_set_39 ?_
      refine lv_iload_n hx hb dX9_set_42 rfl (lv_at hl 1 rfl) ?_
      obtain ⟨g7, hf⟩ := gd_some hf
      refine Ml_3 S hK hP g7 dX9_set_43 ?_
      refine lv_iconst (v := 1) hx hb dX9_set_44 (by decide) ?_
      refine lv_isub hx hb dX9_set_45 ?_
      refine lv_i2l hx hb dX9_set_46 rfl ?_
      obtain ⟨r8, hr8, hf⟩ := bi_some hf
      refine kc_s (n := 3) S hRf hRl hK hA hP hD hS hl [.long (Int32.toInt64 a2), .long 0, .long (Int32.toInt64 ((σ4.2 3 (Int32.toNatClampNeg a1)) - 1))] [] (kM_in l D _ _ (Int32.toInt64 a2) 0 (Int32.toInt64 ((σ4.2 3 (Int32.toNatClampNeg a1)) - 1)) r8 hr8) gX9_set_X9_in rfl (by decide +kernel) rfl ⟨by decide, by decide⟩ rfl (Nat.le_of_ble_eq_true rfl) dX9_set_47 (fun H locs hP hD hS => ?_)
      refine W.eq (g2 := F0 m 50 ls [.int r8]) rfl ?_
      refine lv_if_ne (tgt := 59) hx hb dX9_set_50 (by decide) (fun c9 => ?_) (fun c9 => ?_)
      · have hf := (if_neg c9).symm.trans hf
        refine lv_aload_n hx hb dX9_set_59 rfl (lv_at hl 0 rfl) ?_
        refine Mg_4 S hin hK hP f16 dX9_set_60 ?_
        refine lv_bipush (v := 40) hx hb dX9_set_63 (by decide) ?_
        refine lv_iload_n hx hb dX9_set_65 rfl (lv_at hl 1 rfl) ?_
        refine lv_imul hx hb dX9_set_66 ?_
        refine lv_iload_n hx hb dX9_set_67 rfl (lv_at hl 2 rfl) ?_
        refine lv_iadd hx hb dX9_set_68 ?_
        refine lv_aload_n hx hb dX9_set_69 rfl (lv_at hl 0 rfl) ?_
        refine Mg_2 S hin hK hP f7 dX9_set_70 ?_
        refine lv_iload_n hx hb dX9_set_73 rfl (lv_at hl 1 rfl) ?_
        obtain ⟨g10, hf⟩ := gd_some hf
        refine Ml_2 S hK hP g10 dX9_set_74 ?_
        refine lv_if_ne (tgt := 83) hx hb dX9_set_75 (by decide) (fun c11 => ?_) (fun c11 => ?_)
        · have hf := (if_neg c11).symm.trans hf
          refine lv_aload_n hx hb dX9_set_83 rfl (lv_at hl 0 rfl) ?_
          refine Mg_2 S hin hK hP f7 dX9_set_84 ?_
          refine lv_iload_n hx hb dX9_set_87 rfl (lv_at hl 1 rfl) ?_
          obtain ⟨g12, hf⟩ := gd_some hf
          refine Ml_2 S hK hP g12 dX9_set_88 ?_
          refine lv_iconst (v := 1) hx hb dX9_set_89 (by decide) ?_
          refine lv_icmp_ne (tgt := 98) hx hb dX9_set_90 (by decide) (fun c13 => ?_) (fun c13 => ?_)
          · have hf := (if_neg c13).symm.trans hf
            refine lv_iload_n hx hb dX9_set_98 rfl (lv_at hl 3 rfl) ?_
            exact b99 _ _ _ _ _ _ _ _ hf (lv_sub hl [0, 1, 2] rfl) hP hD hS
          · have hf := (if_pos c13).symm.trans hf
            refine lv_iload_n hx hb dX9_set_93 rfl (lv_at hl 3 rfl) ?_
            refine lv_i2s hx hb dX9_set_94 rfl ?_
            refine lv_goto (tgt := 99) hx hb dX9_set_95 (by decide) ?_
            exact b99 _ _ _ _ _ _ _ _ hf (lv_sub hl [0, 1, 2] rfl) hP hD hS
        · have hf := (if_pos c11).symm.trans hf
          refine lv_iload_n hx hb dX9_set_78 rfl (lv_at hl 3 rfl) ?_
          refine lv_i2b hx hb dX9_set_79 rfl ?_
          refine lv_goto (tgt := 99) hx hb dX9_set_80 (by decide) ?_
          exact b99 _ _ _ _ _ _ _ _ hf (lv_sub hl [0, 1, 2] rfl) hP hD hS
      · have hf := (if_pos c9).symm.trans hf
        refine lv_aload_n hx hb dX9_set_53 rfl (lv_at hl 0 rfl) ?_
        refine lv_iconst (v := 2) hx hb dX9_set_54 (by decide) ?_
        obtain ⟨r14, σ15, hr14, hf⟩ := bd2_some hf
        refine kc_v (ci := 8) (q0 := 0) (n := 1) S hRf hRl hK hA hP hD hS hl [.int 2] [] (kM_finding l D h cI cZ σ4 2 r14 σ15 hr14) gX9_set_X9_finding rfl (by decide +kernel) rfl ⟨by decide, by decide⟩ rfl rfl rfl rfl (Nat.le_of_ble_eq_true rfl) dX9_set_55 (fun H locs hP hD hS => ?_)
        refine W.eq (g2 := F0 m 58 ls [.int r14]) rfl ?_
        exact hre _ _ _ _ _ _ hf hP hD hS dX9_set_58
    · have hf := (if_neg c6).symm.trans hf
      refine lv_aload_n hx hb dX9_set_29 rfl (lv_at hl 0 rfl) ?_
      refine lv_iconst (v := 1) hx hb dX9_set_30 (by decide) ?_
      obtain ⟨r16, σ17, hr16, hf⟩ := bd2_some hf
      refine kc_v (ci := 8) (q0 := 0) (n := 1) S hRf hRl hK hA hP hD hS hl [.int 1] [] (kM_finding l D h cI cZ σ4 1 r16 σ17 hr16) gX9_set_X9_finding rfl (by decide +kernel) rfl ⟨by decide, by decide⟩ rfl rfl rfl rfl (Nat.le_of_ble_eq_true rfl) dX9_set_31 (fun H locs hP hD hS => ?_)
      refine W.eq (g2 := F0 m 34 ls [.int r16]) rfl ?_
      exact hre _ _ _ _ _ _ hf hP hD hS dX9_set_34
  · have hf := (if_pos c3).symm.trans hf
    refine lv_ldc (v := (-1000001)) hx hb hown c67 dX9_set_12 ?_
    exact hre _ _ _ _ _ _ hf hP hD hS dX9_set_14
end
