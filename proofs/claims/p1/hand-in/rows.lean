section
-- ===== PART A: goes FIRST, ahead of the names: the tables' words, and 'selects' of the private methods out of them =====
/-- a private method of a class that the tables say can be made, by its rows of tables_1 -/
def lw_okq (q : MethodName × Nat) : Prop := (q.1.cls ≠ "java/lang/invoke/MethodHandle" ∧ q.1.cls ≠ "java/lang/invoke/VarHandle") ∧ Cond.instantiable q.1.cls q.2 ∈ tables_1 ∧ Cond.privateMethod q.1 ∈ tables_1 ∧ Cond.instanceMethod q.1 ∈ tables_1
theorem lw_p0 : lw_okq (⟨"DeckChairs$Hinge", "measure", "()V"⟩, 2) := ⟨⟨by decide +kernel, by decide +kernel⟩, List.mem_of_getElem? (i := 333) (by decide +kernel), List.mem_of_getElem? (i := 339) (by decide +kernel), List.mem_of_getElem? (i := 340) (by decide +kernel)⟩
theorem lw_p1 : lw_okq (⟨"DeckChairs", "beginAnew", "()V"⟩, 16) := ⟨⟨by decide +kernel, by decide +kernel⟩, List.mem_of_getElem? (i := 23) (by decide +kernel), List.mem_of_getElem? (i := 467) (by decide +kernel), List.mem_of_getElem? (i := 468) (by decide +kernel)⟩
theorem lw_p2 : lw_okq (⟨"DeckChairs$Formula", "run", "()I"⟩, 7) := ⟨⟨by decide +kernel, by decide +kernel⟩, List.mem_of_getElem? (i := 158) (by decide +kernel), List.mem_of_getElem? (i := 505) (by decide +kernel), List.mem_of_getElem? (i := 506) (by decide +kernel)⟩
theorem lw_p3 : lw_okq (⟨"DeckChairs$Formula", "named", "(I)I"⟩, 7) := ⟨⟨by decide +kernel, by decide +kernel⟩, List.mem_of_getElem? (i := 158) (by decide +kernel), List.mem_of_getElem? (i := 509) (by decide +kernel), List.mem_of_getElem? (i := 510) (by decide +kernel)⟩
theorem lw_p4 : lw_okq (⟨"DeckChairs", "putOnTape", "(I)V"⟩, 16) := ⟨⟨by decide +kernel, by decide +kernel⟩, List.mem_of_getElem? (i := 23) (by decide +kernel), List.mem_of_getElem? (i := 569) (by decide +kernel), List.mem_of_getElem? (i := 570) (by decide +kernel)⟩
theorem lw_p5 : lw_okq (⟨"DeckChairs$Tokens", "byteAt", "(I)I"⟩, 8) := ⟨⟨by decide +kernel, by decide +kernel⟩, List.mem_of_getElem? (i := 37) (by decide +kernel), List.mem_of_getElem? (i := 599) (by decide +kernel), List.mem_of_getElem? (i := 600) (by decide +kernel)⟩
theorem lw_p6 : lw_okq (⟨"DeckChairs$Tokens", "readToken", "(I)Z"⟩, 8) := ⟨⟨by decide +kernel, by decide +kernel⟩, List.mem_of_getElem? (i := 37) (by decide +kernel), List.mem_of_getElem? (i := 606) (by decide +kernel), List.mem_of_getElem? (i := 607) (by decide +kernel)⟩
theorem lw_p7 : lw_okq (⟨"DeckChairs$Tokens", "readWord", "()Z"⟩, 8) := ⟨⟨by decide +kernel, by decide +kernel⟩, List.mem_of_getElem? (i := 37) (by decide +kernel), List.mem_of_getElem? (i := 610) (by decide +kernel), List.mem_of_getElem? (i := 611) (by decide +kernel)⟩
theorem lw_p8 : lw_okq (⟨"DeckChairs$Tokens", "kindOfWord", "(J)I"⟩, 8) := ⟨⟨by decide +kernel, by decide +kernel⟩, List.mem_of_getElem? (i := 37) (by decide +kernel), List.mem_of_getElem? (i := 614) (by decide +kernel), List.mem_of_getElem? (i := 615) (by decide +kernel)⟩
theorem lw_p9 : lw_okq (⟨"DeckChairs$Tokens", "put", "(IIJ)Z"⟩, 8) := ⟨⟨by decide +kernel, by decide +kernel⟩, List.mem_of_getElem? (i := 37) (by decide +kernel), List.mem_of_getElem? (i := 618) (by decide +kernel), List.mem_of_getElem? (i := 619) (by decide +kernel)⟩
theorem lw_p10 : lw_okq (⟨"DeckChairs$Tokens", "readNumber", "()Z"⟩, 8) := ⟨⟨by decide +kernel, by decide +kernel⟩, List.mem_of_getElem? (i := 37) (by decide +kernel), List.mem_of_getElem? (i := 625) (by decide +kernel), List.mem_of_getElem? (i := 626) (by decide +kernel)⟩
theorem lw_p11 : lw_okq (⟨"DeckChairs$Parser", "goTo", "(I)V"⟩, 6) := ⟨⟨by decide +kernel, by decide +kernel⟩, List.mem_of_getElem? (i := 31) (by decide +kernel), List.mem_of_getElem? (i := 685) (by decide +kernel), List.mem_of_getElem? (i := 686) (by decide +kernel)⟩
theorem lw_p12 : lw_okq (⟨"DeckChairs$Parser", "readLine", "()V"⟩, 6) := ⟨⟨by decide +kernel, by decide +kernel⟩, List.mem_of_getElem? (i := 31) (by decide +kernel), List.mem_of_getElem? (i := 693) (by decide +kernel), List.mem_of_getElem? (i := 694) (by decide +kernel)⟩
theorem lw_p13 : lw_okq (⟨"DeckChairs$Parser", "readChair", "()V"⟩, 6) := ⟨⟨by decide +kernel, by decide +kernel⟩, List.mem_of_getElem? (i := 31) (by decide +kernel), List.mem_of_getElem? (i := 697) (by decide +kernel), List.mem_of_getElem? (i := 698) (by decide +kernel)⟩
theorem lw_p14 : lw_okq (⟨"DeckChairs$Parser", "refuseToken", "()V"⟩, 6) := ⟨⟨by decide +kernel, by decide +kernel⟩, List.mem_of_getElem? (i := 31) (by decide +kernel), List.mem_of_getElem? (i := 701) (by decide +kernel), List.mem_of_getElem? (i := 702) (by decide +kernel)⟩
theorem lw_p15 : lw_okq (⟨"DeckChairs$Parser", "refuse", "(I)V"⟩, 6) := ⟨⟨by decide +kernel, by decide +kernel⟩, List.mem_of_getElem? (i := 31) (by decide +kernel), List.mem_of_getElem? (i := 705) (by decide +kernel), List.mem_of_getElem? (i := 706) (by decide +kernel)⟩
def lw_privs_1 : List (MethodName × Nat) := [(⟨"DeckChairs$Hinge", "measure", "()V"⟩, 2), (⟨"DeckChairs", "beginAnew", "()V"⟩, 16), (⟨"DeckChairs$Formula", "run", "()I"⟩, 7), (⟨"DeckChairs$Formula", "named", "(I)I"⟩, 7), (⟨"DeckChairs", "putOnTape", "(I)V"⟩, 16), (⟨"DeckChairs$Tokens", "byteAt", "(I)I"⟩, 8), (⟨"DeckChairs$Tokens", "readToken", "(I)Z"⟩, 8), (⟨"DeckChairs$Tokens", "readWord", "()Z"⟩, 8), (⟨"DeckChairs$Tokens", "kindOfWord", "(J)I"⟩, 8), (⟨"DeckChairs$Tokens", "put", "(IIJ)Z"⟩, 8), (⟨"DeckChairs$Tokens", "readNumber", "()Z"⟩, 8), (⟨"DeckChairs$Parser", "goTo", "(I)V"⟩, 6), (⟨"DeckChairs$Parser", "readLine", "()V"⟩, 6), (⟨"DeckChairs$Parser", "readChair", "()V"⟩, 6), (⟨"DeckChairs$Parser", "refuseToken", "()V"⟩, 6), (⟨"DeckChairs$Parser", "refuse", "(I)V"⟩, 6)]
theorem lw_r1 : ∀ q ∈ lw_privs_1, lw_okq q := List.forall_mem_cons.mpr ⟨lw_p0, List.forall_mem_cons.mpr ⟨lw_p1, List.forall_mem_cons.mpr ⟨lw_p2, List.forall_mem_cons.mpr ⟨lw_p3, List.forall_mem_cons.mpr ⟨lw_p4, List.forall_mem_cons.mpr ⟨lw_p5, List.forall_mem_cons.mpr ⟨lw_p6, List.forall_mem_cons.mpr ⟨lw_p7, List.forall_mem_cons.mpr ⟨lw_p8, List.forall_mem_cons.mpr ⟨lw_p9, List.forall_mem_cons.mpr ⟨lw_p10, List.forall_mem_cons.mpr ⟨lw_p11, List.forall_mem_cons.mpr ⟨lw_p12, List.forall_mem_cons.mpr ⟨lw_p13, List.forall_mem_cons.mpr ⟨lw_p14, List.forall_mem_cons.mpr ⟨lw_p15, fun _ h => absurd h List.not_mem_nil⟩⟩⟩⟩⟩⟩⟩⟩⟩⟩⟩⟩⟩⟩⟩⟩
theorem lw_p16 : lw_okq (⟨"DeckChairs$Parser", "expect", "(I)V"⟩, 6) := ⟨⟨by decide +kernel, by decide +kernel⟩, List.mem_of_getElem? (i := 31) (by decide +kernel), List.mem_of_getElem? (i := 713) (by decide +kernel), List.mem_of_getElem? (i := 714) (by decide +kernel)⟩
theorem lw_p17 : lw_okq (⟨"DeckChairs$Parser", "readName", "([JI)J"⟩, 6) := ⟨⟨by decide +kernel, by decide +kernel⟩, List.mem_of_getElem? (i := 31) (by decide +kernel), List.mem_of_getElem? (i := 717) (by decide +kernel), List.mem_of_getElem? (i := 718) (by decide +kernel)⟩
theorem lw_p18 : lw_okq (⟨"DeckChairs$Parser", "readNumber", "(I)I"⟩, 6) := ⟨⟨by decide +kernel, by decide +kernel⟩, List.mem_of_getElem? (i := 31) (by decide +kernel), List.mem_of_getElem? (i := 725) (by decide +kernel), List.mem_of_getElem? (i := 726) (by decide +kernel)⟩
theorem lw_p19 : lw_okq (⟨"DeckChairs$Parser", "readSitter", "()V"⟩, 6) := ⟨⟨by decide +kernel, by decide +kernel⟩, List.mem_of_getElem? (i := 31) (by decide +kernel), List.mem_of_getElem? (i := 733) (by decide +kernel), List.mem_of_getElem? (i := 734) (by decide +kernel)⟩
theorem lw_p20 : lw_okq (⟨"DeckChairs$Parser", "readFormula", "()V"⟩, 6) := ⟨⟨by decide +kernel, by decide +kernel⟩, List.mem_of_getElem? (i := 31) (by decide +kernel), List.mem_of_getElem? (i := 741) (by decide +kernel), List.mem_of_getElem? (i := 742) (by decide +kernel)⟩
theorem lw_p21 : lw_okq (⟨"DeckChairs$Parser", "readEither", "(I)V"⟩, 6) := ⟨⟨by decide +kernel, by decide +kernel⟩, List.mem_of_getElem? (i := 31) (by decide +kernel), List.mem_of_getElem? (i := 745) (by decide +kernel), List.mem_of_getElem? (i := 746) (by decide +kernel)⟩
theorem lw_p22 : lw_okq (⟨"DeckChairs$Parser", "readBoth", "(I)V"⟩, 6) := ⟨⟨by decide +kernel, by decide +kernel⟩, List.mem_of_getElem? (i := 31) (by decide +kernel), List.mem_of_getElem? (i := 749) (by decide +kernel), List.mem_of_getElem? (i := 750) (by decide +kernel)⟩
theorem lw_p23 : lw_okq (⟨"DeckChairs$Parser", "readOne", "(I)V"⟩, 6) := ⟨⟨by decide +kernel, by decide +kernel⟩, List.mem_of_getElem? (i := 31) (by decide +kernel), List.mem_of_getElem? (i := 753) (by decide +kernel), List.mem_of_getElem? (i := 754) (by decide +kernel)⟩
theorem lw_p24 : lw_okq (⟨"DeckChairs$Parser", "readNot", "(I)V"⟩, 6) := ⟨⟨by decide +kernel, by decide +kernel⟩, List.mem_of_getElem? (i := 31) (by decide +kernel), List.mem_of_getElem? (i := 757) (by decide +kernel), List.mem_of_getElem? (i := 758) (by decide +kernel)⟩
theorem lw_p25 : lw_okq (⟨"DeckChairs$Parser", "readSum", "(I)V"⟩, 6) := ⟨⟨by decide +kernel, by decide +kernel⟩, List.mem_of_getElem? (i := 31) (by decide +kernel), List.mem_of_getElem? (i := 765) (by decide +kernel), List.mem_of_getElem? (i := 766) (by decide +kernel)⟩
theorem lw_p26 : lw_okq (⟨"DeckChairs$Parser", "readTerm", "(I)V"⟩, 6) := ⟨⟨by decide +kernel, by decide +kernel⟩, List.mem_of_getElem? (i := 31) (by decide +kernel), List.mem_of_getElem? (i := 769) (by decide +kernel), List.mem_of_getElem? (i := 770) (by decide +kernel)⟩
theorem lw_p27 : lw_okq (⟨"DeckChairs$Parser", "readUnit", "(I)V"⟩, 6) := ⟨⟨by decide +kernel, by decide +kernel⟩, List.mem_of_getElem? (i := 31) (by decide +kernel), List.mem_of_getElem? (i := 773) (by decide +kernel), List.mem_of_getElem? (i := 774) (by decide +kernel)⟩
theorem lw_p28 : lw_okq (⟨"DeckChairs$Parser", "isUnitTooMany", "()Z"⟩, 6) := ⟨⟨by decide +kernel, by decide +kernel⟩, List.mem_of_getElem? (i := 31) (by decide +kernel), List.mem_of_getElem? (i := 777) (by decide +kernel), List.mem_of_getElem? (i := 778) (by decide +kernel)⟩
theorem lw_p29 : lw_okq (⟨"DeckChairs$Parser", "readNested", "(I)V"⟩, 6) := ⟨⟨by decide +kernel, by decide +kernel⟩, List.mem_of_getElem? (i := 31) (by decide +kernel), List.mem_of_getElem? (i := 782) (by decide +kernel), List.mem_of_getElem? (i := 783) (by decide +kernel)⟩
theorem lw_p30 : lw_okq (⟨"DeckChairs$Parser", "readGust", "()V"⟩, 6) := ⟨⟨by decide +kernel, by decide +kernel⟩, List.mem_of_getElem? (i := 31) (by decide +kernel), List.mem_of_getElem? (i := 789) (by decide +kernel), List.mem_of_getElem? (i := 790) (by decide +kernel)⟩
theorem lw_p31 : lw_okq (⟨"DeckChairs$Parser", "readDraw", "()V"⟩, 6) := ⟨⟨by decide +kernel, by decide +kernel⟩, List.mem_of_getElem? (i := 31) (by decide +kernel), List.mem_of_getElem? (i := 793) (by decide +kernel), List.mem_of_getElem? (i := 794) (by decide +kernel)⟩
def lw_privs_2 : List (MethodName × Nat) := [(⟨"DeckChairs$Parser", "expect", "(I)V"⟩, 6), (⟨"DeckChairs$Parser", "readName", "([JI)J"⟩, 6), (⟨"DeckChairs$Parser", "readNumber", "(I)I"⟩, 6), (⟨"DeckChairs$Parser", "readSitter", "()V"⟩, 6), (⟨"DeckChairs$Parser", "readFormula", "()V"⟩, 6), (⟨"DeckChairs$Parser", "readEither", "(I)V"⟩, 6), (⟨"DeckChairs$Parser", "readBoth", "(I)V"⟩, 6), (⟨"DeckChairs$Parser", "readOne", "(I)V"⟩, 6), (⟨"DeckChairs$Parser", "readNot", "(I)V"⟩, 6), (⟨"DeckChairs$Parser", "readSum", "(I)V"⟩, 6), (⟨"DeckChairs$Parser", "readTerm", "(I)V"⟩, 6), (⟨"DeckChairs$Parser", "readUnit", "(I)V"⟩, 6), (⟨"DeckChairs$Parser", "isUnitTooMany", "()Z"⟩, 6), (⟨"DeckChairs$Parser", "readNested", "(I)V"⟩, 6), (⟨"DeckChairs$Parser", "readGust", "()V"⟩, 6), (⟨"DeckChairs$Parser", "readDraw", "()V"⟩, 6)]
theorem lw_r2 : ∀ q ∈ lw_privs_2, lw_okq q := List.forall_mem_cons.mpr ⟨lw_p16, List.forall_mem_cons.mpr ⟨lw_p17, List.forall_mem_cons.mpr ⟨lw_p18, List.forall_mem_cons.mpr ⟨lw_p19, List.forall_mem_cons.mpr ⟨lw_p20, List.forall_mem_cons.mpr ⟨lw_p21, List.forall_mem_cons.mpr ⟨lw_p22, List.forall_mem_cons.mpr ⟨lw_p23, List.forall_mem_cons.mpr ⟨lw_p24, List.forall_mem_cons.mpr ⟨lw_p25, List.forall_mem_cons.mpr ⟨lw_p26, List.forall_mem_cons.mpr ⟨lw_p27, List.forall_mem_cons.mpr ⟨lw_p28, List.forall_mem_cons.mpr ⟨lw_p29, List.forall_mem_cons.mpr ⟨lw_p30, List.forall_mem_cons.mpr ⟨lw_p31, fun _ h => absurd h List.not_mem_nil⟩⟩⟩⟩⟩⟩⟩⟩⟩⟩⟩⟩⟩⟩⟩⟩
theorem lw_p32 : lw_okq (⟨"DeckChairs", "isChair", "(I)Z"⟩, 16) := ⟨⟨by decide +kernel, by decide +kernel⟩, List.mem_of_getElem? (i := 23) (by decide +kernel), List.mem_of_getElem? (i := 805) (by decide +kernel), List.mem_of_getElem? (i := 806) (by decide +kernel)⟩
theorem lw_p33 : lw_okq (⟨"DeckChairs", "isSitter", "(I)Z"⟩, 16) := ⟨⟨by decide +kernel, by decide +kernel⟩, List.mem_of_getElem? (i := 23) (by decide +kernel), List.mem_of_getElem? (i := 822) (by decide +kernel), List.mem_of_getElem? (i := 823) (by decide +kernel)⟩
theorem lw_p34 : lw_okq (⟨"DeckChairs$Scene", "payOrGetUp", "(II)I"⟩, 9) := ⟨⟨by decide +kernel, by decide +kernel⟩, List.mem_of_getElem? (i := 257) (by decide +kernel), List.mem_of_getElem? (i := 858) (by decide +kernel), List.mem_of_getElem? (i := 859) (by decide +kernel)⟩
theorem lw_p35 : lw_okq (⟨"DeckChairs$Scene", "blow", "()V"⟩, 9) := ⟨⟨by decide +kernel, by decide +kernel⟩, List.mem_of_getElem? (i := 257) (by decide +kernel), List.mem_of_getElem? (i := 871) (by decide +kernel), List.mem_of_getElem? (i := 872) (by decide +kernel)⟩
theorem lw_p36 : lw_okq (⟨"DeckChairs", "thinkOn", "(IZ)V"⟩, 16) := ⟨⟨by decide +kernel, by decide +kernel⟩, List.mem_of_getElem? (i := 23) (by decide +kernel), List.mem_of_getElem? (i := 963) (by decide +kernel), List.mem_of_getElem? (i := 964) (by decide +kernel)⟩
theorem lw_p37 : lw_okq (⟨"DeckChairs$Seater", "seatFrom", "(II)V"⟩, 11) := ⟨⟨by decide +kernel, by decide +kernel⟩, List.mem_of_getElem? (i := 363) (by decide +kernel), List.mem_of_getElem? (i := 998) (by decide +kernel), List.mem_of_getElem? (i := 999) (by decide +kernel)⟩
theorem lw_p38 : lw_okq (⟨"DeckChairs$Seater", "weigh", "(I)V"⟩, 11) := ⟨⟨by decide +kernel, by decide +kernel⟩, List.mem_of_getElem? (i := 363) (by decide +kernel), List.mem_of_getElem? (i := 1002) (by decide +kernel), List.mem_of_getElem? (i := 1003) (by decide +kernel)⟩
theorem lw_p39 : lw_okq (⟨"DeckChairs$Seater", "worthIn", "([III)I"⟩, 11) := ⟨⟨by decide +kernel, by decide +kernel⟩, List.mem_of_getElem? (i := 363) (by decide +kernel), List.mem_of_getElem? (i := 1006) (by decide +kernel), List.mem_of_getElem? (i := 1007) (by decide +kernel)⟩
theorem lw_p40 : lw_okq (⟨"DeckChairs$Seater", "remember", "(II)V"⟩, 11) := ⟨⟨by decide +kernel, by decide +kernel⟩, List.mem_of_getElem? (i := 363) (by decide +kernel), List.mem_of_getElem? (i := 1011) (by decide +kernel), List.mem_of_getElem? (i := 1012) (by decide +kernel)⟩
theorem lw_p41 : lw_okq (⟨"DeckChairs", "layFound", "()V"⟩, 16) := ⟨⟨by decide +kernel, by decide +kernel⟩, List.mem_of_getElem? (i := 23) (by decide +kernel), List.mem_of_getElem? (i := 1016) (by decide +kernel), List.mem_of_getElem? (i := 1017) (by decide +kernel)⟩
theorem lw_p42 : lw_okq (⟨"DeckChairs", "lay", "(I)V"⟩, 16) := ⟨⟨by decide +kernel, by decide +kernel⟩, List.mem_of_getElem? (i := 23) (by decide +kernel), List.mem_of_getElem? (i := 1020) (by decide +kernel), List.mem_of_getElem? (i := 1021) (by decide +kernel)⟩
theorem lw_p43 : lw_okq (⟨"DeckChairs$Seater", "takenIn", "([I)I"⟩, 11) := ⟨⟨by decide +kernel, by decide +kernel⟩, List.mem_of_getElem? (i := 363) (by decide +kernel), List.mem_of_getElem? (i := 1032) (by decide +kernel), List.mem_of_getElem? (i := 1033) (by decide +kernel)⟩
theorem lw_p44 : lw_okq (⟨"DeckChairs", "worthIfChanged", "(II)I"⟩, 16) := ⟨⟨by decide +kernel, by decide +kernel⟩, List.mem_of_getElem? (i := 23) (by decide +kernel), List.mem_of_getElem? (i := 1054) (by decide +kernel), List.mem_of_getElem? (i := 1055) (by decide +kernel)⟩
theorem lw_p45 : lw_okq (⟨"DeckChairs$Seater", "dealFrom", "(IIII)V"⟩, 11) := ⟨⟨by decide +kernel, by decide +kernel⟩, List.mem_of_getElem? (i := 363) (by decide +kernel), List.mem_of_getElem? (i := 1067) (by decide +kernel), List.mem_of_getElem? (i := 1068) (by decide +kernel)⟩
theorem lw_p46 : lw_okq (⟨"DeckChairs$Guesses", "fitsAll", "(II)Z"⟩, 11) := ⟨⟨by decide +kernel, by decide +kernel⟩, List.mem_of_getElem? (i := 425) (by decide +kernel), List.mem_of_getElem? (i := 1204) (by decide +kernel), List.mem_of_getElem? (i := 1205) (by decide +kernel)⟩
theorem lw_p47 : lw_okq (⟨"DeckChairs$Guesses", "counts", "(II)Z"⟩, 11) := ⟨⟨by decide +kernel, by decide +kernel⟩, List.mem_of_getElem? (i := 425) (by decide +kernel), List.mem_of_getElem? (i := 1208) (by decide +kernel), List.mem_of_getElem? (i := 1209) (by decide +kernel)⟩
def lw_privs_3 : List (MethodName × Nat) := [(⟨"DeckChairs", "isChair", "(I)Z"⟩, 16), (⟨"DeckChairs", "isSitter", "(I)Z"⟩, 16), (⟨"DeckChairs$Scene", "payOrGetUp", "(II)I"⟩, 9), (⟨"DeckChairs$Scene", "blow", "()V"⟩, 9), (⟨"DeckChairs", "thinkOn", "(IZ)V"⟩, 16), (⟨"DeckChairs$Seater", "seatFrom", "(II)V"⟩, 11), (⟨"DeckChairs$Seater", "weigh", "(I)V"⟩, 11), (⟨"DeckChairs$Seater", "worthIn", "([III)I"⟩, 11), (⟨"DeckChairs$Seater", "remember", "(II)V"⟩, 11), (⟨"DeckChairs", "layFound", "()V"⟩, 16), (⟨"DeckChairs", "lay", "(I)V"⟩, 16), (⟨"DeckChairs$Seater", "takenIn", "([I)I"⟩, 11), (⟨"DeckChairs", "worthIfChanged", "(II)I"⟩, 16), (⟨"DeckChairs$Seater", "dealFrom", "(IIII)V"⟩, 11), (⟨"DeckChairs$Guesses", "fitsAll", "(II)Z"⟩, 11), (⟨"DeckChairs$Guesses", "counts", "(II)Z"⟩, 11)]
theorem lw_r3 : ∀ q ∈ lw_privs_3, lw_okq q := List.forall_mem_cons.mpr ⟨lw_p32, List.forall_mem_cons.mpr ⟨lw_p33, List.forall_mem_cons.mpr ⟨lw_p34, List.forall_mem_cons.mpr ⟨lw_p35, List.forall_mem_cons.mpr ⟨lw_p36, List.forall_mem_cons.mpr ⟨lw_p37, List.forall_mem_cons.mpr ⟨lw_p38, List.forall_mem_cons.mpr ⟨lw_p39, List.forall_mem_cons.mpr ⟨lw_p40, List.forall_mem_cons.mpr ⟨lw_p41, List.forall_mem_cons.mpr ⟨lw_p42, List.forall_mem_cons.mpr ⟨lw_p43, List.forall_mem_cons.mpr ⟨lw_p44, List.forall_mem_cons.mpr ⟨lw_p45, List.forall_mem_cons.mpr ⟨lw_p46, List.forall_mem_cons.mpr ⟨lw_p47, fun _ h => absurd h List.not_mem_nil⟩⟩⟩⟩⟩⟩⟩⟩⟩⟩⟩⟩⟩⟩⟩⟩
theorem lw_p48 : lw_okq (⟨"DeckChairsModel", "clearBank", "()V"⟩, 60) := ⟨⟨by decide +kernel, by decide +kernel⟩, List.mem_of_getElem? (i := 1245) (by decide +kernel), List.mem_of_getElem? (i := 1251) (by decide +kernel), List.mem_of_getElem? (i := 1252) (by decide +kernel)⟩
theorem lw_p49 : lw_okq (⟨"DeckChairsModel", "startAnew", "()V"⟩, 60) := ⟨⟨by decide +kernel, by decide +kernel⟩, List.mem_of_getElem? (i := 1245) (by decide +kernel), List.mem_of_getElem? (i := 1255) (by decide +kernel), List.mem_of_getElem? (i := 1256) (by decide +kernel)⟩
theorem lw_p50 : lw_okq (⟨"DeckChairsModel", "layTold", "()V"⟩, 60) := ⟨⟨by decide +kernel, by decide +kernel⟩, List.mem_of_getElem? (i := 1245) (by decide +kernel), List.mem_of_getElem? (i := 1259) (by decide +kernel), List.mem_of_getElem? (i := 1260) (by decide +kernel)⟩
theorem lw_p51 : lw_okq (⟨"DeckChairsModel", "seats", "()I"⟩, 60) := ⟨⟨by decide +kernel, by decide +kernel⟩, List.mem_of_getElem? (i := 1245) (by decide +kernel), List.mem_of_getElem? (i := 1263) (by decide +kernel), List.mem_of_getElem? (i := 1264) (by decide +kernel)⟩
theorem lw_p52 : lw_okq (⟨"DeckChairsModel", "folk", "()I"⟩, 60) := ⟨⟨by decide +kernel, by decide +kernel⟩, List.mem_of_getElem? (i := 1245) (by decide +kernel), List.mem_of_getElem? (i := 1267) (by decide +kernel), List.mem_of_getElem? (i := 1268) (by decide +kernel)⟩
theorem lw_p53 : lw_okq (⟨"DeckChairsModel", "goOn", "()V"⟩, 60) := ⟨⟨by decide +kernel, by decide +kernel⟩, List.mem_of_getElem? (i := 1245) (by decide +kernel), List.mem_of_getElem? (i := 1456) (by decide +kernel), List.mem_of_getElem? (i := 1457) (by decide +kernel)⟩
theorem lw_p54 : lw_okq (⟨"DeckChairsModel", "sign", "(I)I"⟩, 60) := ⟨⟨by decide +kernel, by decide +kernel⟩, List.mem_of_getElem? (i := 1245) (by decide +kernel), List.mem_of_getElem? (i := 1460) (by decide +kernel), List.mem_of_getElem? (i := 1461) (by decide +kernel)⟩
theorem lw_p55 : lw_okq (⟨"DeckChairsModel", "isGood", "()Z"⟩, 60) := ⟨⟨by decide +kernel, by decide +kernel⟩, List.mem_of_getElem? (i := 1245) (by decide +kernel), List.mem_of_getElem? (i := 1492) (by decide +kernel), List.mem_of_getElem? (i := 1493) (by decide +kernel)⟩
theorem lw_p56 : lw_okq (⟨"DeckChairsModel", "readLine", "()V"⟩, 60) := ⟨⟨by decide +kernel, by decide +kernel⟩, List.mem_of_getElem? (i := 1245) (by decide +kernel), List.mem_of_getElem? (i := 1496) (by decide +kernel), List.mem_of_getElem? (i := 1497) (by decide +kernel)⟩
theorem lw_p57 : lw_okq (⟨"DeckChairsModel", "isFull", "()Z"⟩, 60) := ⟨⟨by decide +kernel, by decide +kernel⟩, List.mem_of_getElem? (i := 1245) (by decide +kernel), List.mem_of_getElem? (i := 1500) (by decide +kernel), List.mem_of_getElem? (i := 1501) (by decide +kernel)⟩
theorem lw_p58 : lw_okq (⟨"DeckChairsModel", "isWord", "(J)Z"⟩, 60) := ⟨⟨by decide +kernel, by decide +kernel⟩, List.mem_of_getElem? (i := 1245) (by decide +kernel), List.mem_of_getElem? (i := 1504) (by decide +kernel), List.mem_of_getElem? (i := 1505) (by decide +kernel)⟩
theorem lw_p59 : lw_okq (⟨"DeckChairsModel", "misplaced", "()V"⟩, 60) := ⟨⟨by decide +kernel, by decide +kernel⟩, List.mem_of_getElem? (i := 1245) (by decide +kernel), List.mem_of_getElem? (i := 1511) (by decide +kernel), List.mem_of_getElem? (i := 1512) (by decide +kernel)⟩
theorem lw_p60 : lw_okq (⟨"DeckChairsModel", "fails", "(II)V"⟩, 60) := ⟨⟨by decide +kernel, by decide +kernel⟩, List.mem_of_getElem? (i := 1245) (by decide +kernel), List.mem_of_getElem? (i := 1515) (by decide +kernel), List.mem_of_getElem? (i := 1516) (by decide +kernel)⟩
theorem lw_p61 : lw_okq (⟨"DeckChairsModel", "readChair", "()V"⟩, 60) := ⟨⟨by decide +kernel, by decide +kernel⟩, List.mem_of_getElem? (i := 1245) (by decide +kernel), List.mem_of_getElem? (i := 1519) (by decide +kernel), List.mem_of_getElem? (i := 1520) (by decide +kernel)⟩
theorem lw_p62 : lw_okq (⟨"DeckChairsModel", "here", "([JI)I"⟩, 60) := ⟨⟨by decide +kernel, by decide +kernel⟩, List.mem_of_getElem? (i := 1245) (by decide +kernel), List.mem_of_getElem? (i := 1523) (by decide +kernel), List.mem_of_getElem? (i := 1524) (by decide +kernel)⟩
theorem lw_p63 : lw_okq (⟨"DeckChairsModel", "fresh", "(I)J"⟩, 60) := ⟨⟨by decide +kernel, by decide +kernel⟩, List.mem_of_getElem? (i := 1245) (by decide +kernel), List.mem_of_getElem? (i := 1527) (by decide +kernel), List.mem_of_getElem? (i := 1528) (by decide +kernel)⟩
def lw_privs_4 : List (MethodName × Nat) := [(⟨"DeckChairsModel", "clearBank", "()V"⟩, 60), (⟨"DeckChairsModel", "startAnew", "()V"⟩, 60), (⟨"DeckChairsModel", "layTold", "()V"⟩, 60), (⟨"DeckChairsModel", "seats", "()I"⟩, 60), (⟨"DeckChairsModel", "folk", "()I"⟩, 60), (⟨"DeckChairsModel", "goOn", "()V"⟩, 60), (⟨"DeckChairsModel", "sign", "(I)I"⟩, 60), (⟨"DeckChairsModel", "isGood", "()Z"⟩, 60), (⟨"DeckChairsModel", "readLine", "()V"⟩, 60), (⟨"DeckChairsModel", "isFull", "()Z"⟩, 60), (⟨"DeckChairsModel", "isWord", "(J)Z"⟩, 60), (⟨"DeckChairsModel", "misplaced", "()V"⟩, 60), (⟨"DeckChairsModel", "fails", "(II)V"⟩, 60), (⟨"DeckChairsModel", "readChair", "()V"⟩, 60), (⟨"DeckChairsModel", "here", "([JI)I"⟩, 60), (⟨"DeckChairsModel", "fresh", "(I)J"⟩, 60)]
theorem lw_r4 : ∀ q ∈ lw_privs_4, lw_okq q := List.forall_mem_cons.mpr ⟨lw_p48, List.forall_mem_cons.mpr ⟨lw_p49, List.forall_mem_cons.mpr ⟨lw_p50, List.forall_mem_cons.mpr ⟨lw_p51, List.forall_mem_cons.mpr ⟨lw_p52, List.forall_mem_cons.mpr ⟨lw_p53, List.forall_mem_cons.mpr ⟨lw_p54, List.forall_mem_cons.mpr ⟨lw_p55, List.forall_mem_cons.mpr ⟨lw_p56, List.forall_mem_cons.mpr ⟨lw_p57, List.forall_mem_cons.mpr ⟨lw_p58, List.forall_mem_cons.mpr ⟨lw_p59, List.forall_mem_cons.mpr ⟨lw_p60, List.forall_mem_cons.mpr ⟨lw_p61, List.forall_mem_cons.mpr ⟨lw_p62, List.forall_mem_cons.mpr ⟨lw_p63, fun _ h => absurd h List.not_mem_nil⟩⟩⟩⟩⟩⟩⟩⟩⟩⟩⟩⟩⟩⟩⟩⟩
theorem lw_p64 : lw_okq (⟨"DeckChairsModel", "after", "(JI)I"⟩, 60) := ⟨⟨by decide +kernel, by decide +kernel⟩, List.mem_of_getElem? (i := 1245) (by decide +kernel), List.mem_of_getElem? (i := 1531) (by decide +kernel), List.mem_of_getElem? (i := 1532) (by decide +kernel)⟩
theorem lw_p65 : lw_okq (⟨"DeckChairsModel", "must", "(Z)V"⟩, 60) := ⟨⟨by decide +kernel, by decide +kernel⟩, List.mem_of_getElem? (i := 1245) (by decide +kernel), List.mem_of_getElem? (i := 1535) (by decide +kernel), List.mem_of_getElem? (i := 1536) (by decide +kernel)⟩
theorem lw_p66 : lw_okq (⟨"DeckChairsModel", "numeral", "(I)I"⟩, 60) := ⟨⟨by decide +kernel, by decide +kernel⟩, List.mem_of_getElem? (i := 1245) (by decide +kernel), List.mem_of_getElem? (i := 1539) (by decide +kernel), List.mem_of_getElem? (i := 1540) (by decide +kernel)⟩
theorem lw_p67 : lw_okq (⟨"DeckChairsModel", "readSitter", "()V"⟩, 60) := ⟨⟨by decide +kernel, by decide +kernel⟩, List.mem_of_getElem? (i := 1245) (by decide +kernel), List.mem_of_getElem? (i := 1543) (by decide +kernel), List.mem_of_getElem? (i := 1544) (by decide +kernel)⟩
theorem lw_p68 : lw_okq (⟨"DeckChairsModel", "readRule", "()V"⟩, 60) := ⟨⟨by decide +kernel, by decide +kernel⟩, List.mem_of_getElem? (i := 1245) (by decide +kernel), List.mem_of_getElem? (i := 1547) (by decide +kernel), List.mem_of_getElem? (i := 1548) (by decide +kernel)⟩
theorem lw_p69 : lw_okq (⟨"DeckChairsModel", "e", "()V"⟩, 60) := ⟨⟨by decide +kernel, by decide +kernel⟩, List.mem_of_getElem? (i := 1245) (by decide +kernel), List.mem_of_getElem? (i := 1551) (by decide +kernel), List.mem_of_getElem? (i := 1552) (by decide +kernel)⟩
theorem lw_p70 : lw_okq (⟨"DeckChairsModel", "pushE", "(II)V"⟩, 60) := ⟨⟨by decide +kernel, by decide +kernel⟩, List.mem_of_getElem? (i := 1245) (by decide +kernel), List.mem_of_getElem? (i := 1555) (by decide +kernel), List.mem_of_getElem? (i := 1556) (by decide +kernel)⟩
theorem lw_p71 : lw_okq (⟨"DeckChairsModel", "unit", "()Z"⟩, 60) := ⟨⟨by decide +kernel, by decide +kernel⟩, List.mem_of_getElem? (i := 1245) (by decide +kernel), List.mem_of_getElem? (i := 1559) (by decide +kernel), List.mem_of_getElem? (i := 1560) (by decide +kernel)⟩
theorem lw_p72 : lw_okq (⟨"DeckChairsModel", "isSignHere", "(I)Z"⟩, 60) := ⟨⟨by decide +kernel, by decide +kernel⟩, List.mem_of_getElem? (i := 1245) (by decide +kernel), List.mem_of_getElem? (i := 1563) (by decide +kernel), List.mem_of_getElem? (i := 1564) (by decide +kernel)⟩
theorem lw_p73 : lw_okq (⟨"DeckChairsModel", "wordHere", "()I"⟩, 60) := ⟨⟨by decide +kernel, by decide +kernel⟩, List.mem_of_getElem? (i := 1245) (by decide +kernel), List.mem_of_getElem? (i := 1567) (by decide +kernel), List.mem_of_getElem? (i := 1568) (by decide +kernel)⟩
theorem lw_p74 : lw_okq (⟨"DeckChairsModel", "emit", "(II)V"⟩, 60) := ⟨⟨by decide +kernel, by decide +kernel⟩, List.mem_of_getElem? (i := 1245) (by decide +kernel), List.mem_of_getElem? (i := 1571) (by decide +kernel), List.mem_of_getElem? (i := 1572) (by decide +kernel)⟩
theorem lw_p75 : lw_okq (⟨"DeckChairsModel", "behindUnit", "()Z"⟩, 60) := ⟨⟨by decide +kernel, by decide +kernel⟩, List.mem_of_getElem? (i := 1245) (by decide +kernel), List.mem_of_getElem? (i := 1575) (by decide +kernel), List.mem_of_getElem? (i := 1576) (by decide +kernel)⟩
theorem lw_p76 : lw_okq (⟨"DeckChairsModel", "rankHere", "()I"⟩, 60) := ⟨⟨by decide +kernel, by decide +kernel⟩, List.mem_of_getElem? (i := 1245) (by decide +kernel), List.mem_of_getElem? (i := 1579) (by decide +kernel), List.mem_of_getElem? (i := 1580) (by decide +kernel)⟩
theorem lw_p77 : lw_okq (⟨"DeckChairsModel", "isCompared", "()Z"⟩, 60) := ⟨⟨by decide +kernel, by decide +kernel⟩, List.mem_of_getElem? (i := 1245) (by decide +kernel), List.mem_of_getElem? (i := 1583) (by decide +kernel), List.mem_of_getElem? (i := 1584) (by decide +kernel)⟩
theorem lw_p78 : lw_okq (⟨"DeckChairsModel", "once", "(II)I"⟩, 60) := ⟨⟨by decide +kernel, by decide +kernel⟩, List.mem_of_getElem? (i := 1245) (by decide +kernel), List.mem_of_getElem? (i := 1587) (by decide +kernel), List.mem_of_getElem? (i := 1588) (by decide +kernel)⟩
theorem lw_p79 : lw_okq (⟨"DeckChairsModel", "isChair", "(I)Z"⟩, 60) := ⟨⟨by decide +kernel, by decide +kernel⟩, List.mem_of_getElem? (i := 1245) (by decide +kernel), List.mem_of_getElem? (i := 1599) (by decide +kernel), List.mem_of_getElem? (i := 1600) (by decide +kernel)⟩
def lw_privs_5 : List (MethodName × Nat) := [(⟨"DeckChairsModel", "after", "(JI)I"⟩, 60), (⟨"DeckChairsModel", "must", "(Z)V"⟩, 60), (⟨"DeckChairsModel", "numeral", "(I)I"⟩, 60), (⟨"DeckChairsModel", "readSitter", "()V"⟩, 60), (⟨"DeckChairsModel", "readRule", "()V"⟩, 60), (⟨"DeckChairsModel", "e", "()V"⟩, 60), (⟨"DeckChairsModel", "pushE", "(II)V"⟩, 60), (⟨"DeckChairsModel", "unit", "()Z"⟩, 60), (⟨"DeckChairsModel", "isSignHere", "(I)Z"⟩, 60), (⟨"DeckChairsModel", "wordHere", "()I"⟩, 60), (⟨"DeckChairsModel", "emit", "(II)V"⟩, 60), (⟨"DeckChairsModel", "behindUnit", "()Z"⟩, 60), (⟨"DeckChairsModel", "rankHere", "()I"⟩, 60), (⟨"DeckChairsModel", "isCompared", "()Z"⟩, 60), (⟨"DeckChairsModel", "once", "(II)I"⟩, 60), (⟨"DeckChairsModel", "isChair", "(I)Z"⟩, 60)]
theorem lw_r5 : ∀ q ∈ lw_privs_5, lw_okq q := List.forall_mem_cons.mpr ⟨lw_p64, List.forall_mem_cons.mpr ⟨lw_p65, List.forall_mem_cons.mpr ⟨lw_p66, List.forall_mem_cons.mpr ⟨lw_p67, List.forall_mem_cons.mpr ⟨lw_p68, List.forall_mem_cons.mpr ⟨lw_p69, List.forall_mem_cons.mpr ⟨lw_p70, List.forall_mem_cons.mpr ⟨lw_p71, List.forall_mem_cons.mpr ⟨lw_p72, List.forall_mem_cons.mpr ⟨lw_p73, List.forall_mem_cons.mpr ⟨lw_p74, List.forall_mem_cons.mpr ⟨lw_p75, List.forall_mem_cons.mpr ⟨lw_p76, List.forall_mem_cons.mpr ⟨lw_p77, List.forall_mem_cons.mpr ⟨lw_p78, List.forall_mem_cons.mpr ⟨lw_p79, fun _ h => absurd h List.not_mem_nil⟩⟩⟩⟩⟩⟩⟩⟩⟩⟩⟩⟩⟩⟩⟩⟩
theorem lw_p80 : lw_okq (⟨"DeckChairsModel", "stripesOf", "(I)I"⟩, 60) := ⟨⟨by decide +kernel, by decide +kernel⟩, List.mem_of_getElem? (i := 1245) (by decide +kernel), List.mem_of_getElem? (i := 1606) (by decide +kernel), List.mem_of_getElem? (i := 1607) (by decide +kernel)⟩
theorem lw_p81 : lw_okq (⟨"DeckChairsModel", "sitterIn", "(I)I"⟩, 60) := ⟨⟨by decide +kernel, by decide +kernel⟩, List.mem_of_getElem? (i := 1245) (by decide +kernel), List.mem_of_getElem? (i := 1610) (by decide +kernel), List.mem_of_getElem? (i := 1611) (by decide +kernel)⟩
theorem lw_p82 : lw_okq (⟨"DeckChairsModel", "isOpen", "(I)Z"⟩, 60) := ⟨⟨by decide +kernel, by decide +kernel⟩, List.mem_of_getElem? (i := 1245) (by decide +kernel), List.mem_of_getElem? (i := 1614) (by decide +kernel), List.mem_of_getElem? (i := 1615) (by decide +kernel)⟩
theorem lw_p83 : lw_okq (⟨"DeckChairsModel", "isSitter", "(I)Z"⟩, 60) := ⟨⟨by decide +kernel, by decide +kernel⟩, List.mem_of_getElem? (i := 1245) (by decide +kernel), List.mem_of_getElem? (i := 1622) (by decide +kernel), List.mem_of_getElem? (i := 1623) (by decide +kernel)⟩
theorem lw_p84 : lw_okq (⟨"DeckChairsModel", "likesOf", "(I)I"⟩, 60) := ⟨⟨by decide +kernel, by decide +kernel⟩, List.mem_of_getElem? (i := 1245) (by decide +kernel), List.mem_of_getElem? (i := 1626) (by decide +kernel), List.mem_of_getElem? (i := 1627) (by decide +kernel)⟩
theorem lw_p85 : lw_okq (⟨"DeckChairsModel", "hadNow", "(II)I"⟩, 60) := ⟨⟨by decide +kernel, by decide +kernel⟩, List.mem_of_getElem? (i := 1245) (by decide +kernel), List.mem_of_getElem? (i := 1634) (by decide +kernel), List.mem_of_getElem? (i := 1635) (by decide +kernel)⟩
theorem lw_p86 : lw_okq (⟨"DeckChairsModel", "takenBut", "(I)I"⟩, 60) := ⟨⟨by decide +kernel, by decide +kernel⟩, List.mem_of_getElem? (i := 1245) (by decide +kernel), List.mem_of_getElem? (i := 1638) (by decide +kernel), List.mem_of_getElem? (i := 1639) (by decide +kernel)⟩
theorem lw_p87 : lw_okq (⟨"DeckChairsModel", "satThere", "(II)I"⟩, 60) := ⟨⟨by decide +kernel, by decide +kernel⟩, List.mem_of_getElem? (i := 1245) (by decide +kernel), List.mem_of_getElem? (i := 1642) (by decide +kernel), List.mem_of_getElem? (i := 1643) (by decide +kernel)⟩
theorem lw_p88 : lw_okq (⟨"DeckChairsModel", "hadBy", "(IIII)I"⟩, 60) := ⟨⟨by decide +kernel, by decide +kernel⟩, List.mem_of_getElem? (i := 1245) (by decide +kernel), List.mem_of_getElem? (i := 1646) (by decide +kernel), List.mem_of_getElem? (i := 1647) (by decide +kernel)⟩
theorem lw_p89 : lw_okq (⟨"DeckChairsModel", "comes", "()I"⟩, 60) := ⟨⟨by decide +kernel, by decide +kernel⟩, List.mem_of_getElem? (i := 1245) (by decide +kernel), List.mem_of_getElem? (i := 1653) (by decide +kernel), List.mem_of_getElem? (i := 1654) (by decide +kernel)⟩
theorem lw_p90 : lw_okq (⟨"DeckChairsModel", "asked", "(II)I"⟩, 60) := ⟨⟨by decide +kernel, by decide +kernel⟩, List.mem_of_getElem? (i := 1245) (by decide +kernel), List.mem_of_getElem? (i := 1657) (by decide +kernel), List.mem_of_getElem? (i := 1658) (by decide +kernel)⟩
theorem lw_p91 : lw_okq (⟨"DeckChairsModel", "doesSit", "(I)Z"⟩, 60) := ⟨⟨by decide +kernel, by decide +kernel⟩, List.mem_of_getElem? (i := 1245) (by decide +kernel), List.mem_of_getElem? (i := 1679) (by decide +kernel), List.mem_of_getElem? (i := 1680) (by decide +kernel)⟩
theorem lw_p92 : lw_okq (⟨"DeckChairsModel", "taken", "()I"⟩, 60) := ⟨⟨by decide +kernel, by decide +kernel⟩, List.mem_of_getElem? (i := 1245) (by decide +kernel), List.mem_of_getElem? (i := 1683) (by decide +kernel), List.mem_of_getElem? (i := 1684) (by decide +kernel)⟩
theorem lw_p93 : lw_okq (⟨"DeckChairsModel", "keepNow", "()V"⟩, 60) := ⟨⟨by decide +kernel, by decide +kernel⟩, List.mem_of_getElem? (i := 1245) (by decide +kernel), List.mem_of_getElem? (i := 1723) (by decide +kernel), List.mem_of_getElem? (i := 1724) (by decide +kernel)⟩
theorem lw_p94 : lw_okq (⟨"DeckChairsModel", "hadTogether", "()I"⟩, 60) := ⟨⟨by decide +kernel, by decide +kernel⟩, List.mem_of_getElem? (i := 1245) (by decide +kernel), List.mem_of_getElem? (i := 1727) (by decide +kernel), List.mem_of_getElem? (i := 1728) (by decide +kernel)⟩
theorem lw_p95 : lw_okq (⟨"DeckChairsModel", "bringBack", "()V"⟩, 60) := ⟨⟨by decide +kernel, by decide +kernel⟩, List.mem_of_getElem? (i := 1245) (by decide +kernel), List.mem_of_getElem? (i := 1731) (by decide +kernel), List.mem_of_getElem? (i := 1732) (by decide +kernel)⟩
def lw_privs_6 : List (MethodName × Nat) := [(⟨"DeckChairsModel", "stripesOf", "(I)I"⟩, 60), (⟨"DeckChairsModel", "sitterIn", "(I)I"⟩, 60), (⟨"DeckChairsModel", "isOpen", "(I)Z"⟩, 60), (⟨"DeckChairsModel", "isSitter", "(I)Z"⟩, 60), (⟨"DeckChairsModel", "likesOf", "(I)I"⟩, 60), (⟨"DeckChairsModel", "hadNow", "(II)I"⟩, 60), (⟨"DeckChairsModel", "takenBut", "(I)I"⟩, 60), (⟨"DeckChairsModel", "satThere", "(II)I"⟩, 60), (⟨"DeckChairsModel", "hadBy", "(IIII)I"⟩, 60), (⟨"DeckChairsModel", "comes", "()I"⟩, 60), (⟨"DeckChairsModel", "asked", "(II)I"⟩, 60), (⟨"DeckChairsModel", "doesSit", "(I)Z"⟩, 60), (⟨"DeckChairsModel", "taken", "()I"⟩, 60), (⟨"DeckChairsModel", "keepNow", "()V"⟩, 60), (⟨"DeckChairsModel", "hadTogether", "()I"⟩, 60), (⟨"DeckChairsModel", "bringBack", "()V"⟩, 60)]
theorem lw_r6 : ∀ q ∈ lw_privs_6, lw_okq q := List.forall_mem_cons.mpr ⟨lw_p80, List.forall_mem_cons.mpr ⟨lw_p81, List.forall_mem_cons.mpr ⟨lw_p82, List.forall_mem_cons.mpr ⟨lw_p83, List.forall_mem_cons.mpr ⟨lw_p84, List.forall_mem_cons.mpr ⟨lw_p85, List.forall_mem_cons.mpr ⟨lw_p86, List.forall_mem_cons.mpr ⟨lw_p87, List.forall_mem_cons.mpr ⟨lw_p88, List.forall_mem_cons.mpr ⟨lw_p89, List.forall_mem_cons.mpr ⟨lw_p90, List.forall_mem_cons.mpr ⟨lw_p91, List.forall_mem_cons.mpr ⟨lw_p92, List.forall_mem_cons.mpr ⟨lw_p93, List.forall_mem_cons.mpr ⟨lw_p94, List.forall_mem_cons.mpr ⟨lw_p95, fun _ h => absurd h List.not_mem_nil⟩⟩⟩⟩⟩⟩⟩⟩⟩⟩⟩⟩⟩⟩⟩⟩
theorem lw_p96 : lw_okq (⟨"DeckChairsModel", "keepAct", "()V"⟩, 60) := ⟨⟨by decide +kernel, by decide +kernel⟩, List.mem_of_getElem? (i := 1245) (by decide +kernel), List.mem_of_getElem? (i := 1743) (by decide +kernel), List.mem_of_getElem? (i := 1744) (by decide +kernel)⟩
theorem lw_p97 : lw_okq (⟨"DeckChairsModel", "goHour", "(Z)I"⟩, 60) := ⟨⟨by decide +kernel, by decide +kernel⟩, List.mem_of_getElem? (i := 1245) (by decide +kernel), List.mem_of_getElem? (i := 1747) (by decide +kernel), List.mem_of_getElem? (i := 1748) (by decide +kernel)⟩
theorem lw_p98 : lw_okq (⟨"DeckChairsModel", "goChange", "(II)V"⟩, 60) := ⟨⟨by decide +kernel, by decide +kernel⟩, List.mem_of_getElem? (i := 1245) (by decide +kernel), List.mem_of_getElem? (i := 1763) (by decide +kernel), List.mem_of_getElem? (i := 1764) (by decide +kernel)⟩
theorem lw_p99 : lw_okq (⟨"DeckChairsModel", "swapAll", "()V"⟩, 60) := ⟨⟨by decide +kernel, by decide +kernel⟩, List.mem_of_getElem? (i := 1245) (by decide +kernel), List.mem_of_getElem? (i := 1782) (by decide +kernel), List.mem_of_getElem? (i := 1783) (by decide +kernel)⟩
theorem lw_p100 : lw_okq (⟨"DeckChairsModel", "openSet", "()I"⟩, 60) := ⟨⟨by decide +kernel, by decide +kernel⟩, List.mem_of_getElem? (i := 1245) (by decide +kernel), List.mem_of_getElem? (i := 1798) (by decide +kernel), List.mem_of_getElem? (i := 1799) (by decide +kernel)⟩
theorem lw_p101 : lw_okq (⟨"DeckChairsModel", "bestSeating", "(I)I"⟩, 60) := ⟨⟨by decide +kernel, by decide +kernel⟩, List.mem_of_getElem? (i := 1245) (by decide +kernel), List.mem_of_getElem? (i := 1814) (by decide +kernel), List.mem_of_getElem? (i := 1815) (by decide +kernel)⟩
theorem lw_p102 : lw_okq (⟨"DeckChairsModel", "chairsIn", "(I)I"⟩, 60) := ⟨⟨by decide +kernel, by decide +kernel⟩, List.mem_of_getElem? (i := 1245) (by decide +kernel), List.mem_of_getElem? (i := 1821) (by decide +kernel), List.mem_of_getElem? (i := 1822) (by decide +kernel)⟩
theorem lw_p103 : lw_okq (⟨"DeckChairsModel", "digit", "(II)I"⟩, 60) := ⟨⟨by decide +kernel, by decide +kernel⟩, List.mem_of_getElem? (i := 1245) (by decide +kernel), List.mem_of_getElem? (i := 1825) (by decide +kernel), List.mem_of_getElem? (i := 1826) (by decide +kernel)⟩
theorem lw_p104 : lw_okq (⟨"DeckChairsModel", "partIn", "(III)I"⟩, 60) := ⟨⟨by decide +kernel, by decide +kernel⟩, List.mem_of_getElem? (i := 1245) (by decide +kernel), List.mem_of_getElem? (i := 1829) (by decide +kernel), List.mem_of_getElem? (i := 1830) (by decide +kernel)⟩
theorem lw_p105 : lw_okq (⟨"DeckChairsModel", "layChairs", "(I)V"⟩, 60) := ⟨⟨by decide +kernel, by decide +kernel⟩, List.mem_of_getElem? (i := 1245) (by decide +kernel), List.mem_of_getElem? (i := 1833) (by decide +kernel), List.mem_of_getElem? (i := 1834) (by decide +kernel)⟩
theorem lw_p106 : lw_okq (⟨"DeckChairsModel", "hadIn", "(II)I"⟩, 60) := ⟨⟨by decide +kernel, by decide +kernel⟩, List.mem_of_getElem? (i := 1245) (by decide +kernel), List.mem_of_getElem? (i := 1837) (by decide +kernel), List.mem_of_getElem? (i := 1838) (by decide +kernel)⟩
theorem lw_p107 : lw_okq (⟨"DeckChairsModel", "ringOf", "(I)I"⟩, 60) := ⟨⟨by decide +kernel, by decide +kernel⟩, List.mem_of_getElem? (i := 1245) (by decide +kernel), List.mem_of_getElem? (i := 1853) (by decide +kernel), List.mem_of_getElem? (i := 1854) (by decide +kernel)⟩
theorem lw_p108 : lw_okq (⟨"DeckChairsModel", "layMoves", "()V"⟩, 60) := ⟨⟨by decide +kernel, by decide +kernel⟩, List.mem_of_getElem? (i := 1245) (by decide +kernel), List.mem_of_getElem? (i := 1861) (by decide +kernel), List.mem_of_getElem? (i := 1862) (by decide +kernel)⟩
theorem lw_p109 : lw_okq (⟨"DeckChairsModel", "isFree", "(I)Z"⟩, 60) := ⟨⟨by decide +kernel, by decide +kernel⟩, List.mem_of_getElem? (i := 1245) (by decide +kernel), List.mem_of_getElem? (i := 1875) (by decide +kernel), List.mem_of_getElem? (i := 1876) (by decide +kernel)⟩
theorem lw_p110 : lw_okq (⟨"DeckChairsModel", "isRest", "(IIII)Z"⟩, 60) := ⟨⟨by decide +kernel, by decide +kernel⟩, List.mem_of_getElem? (i := 1245) (by decide +kernel), List.mem_of_getElem? (i := 1879) (by decide +kernel), List.mem_of_getElem? (i := 1880) (by decide +kernel)⟩
theorem lw_p111 : lw_okq (⟨"DeckChairsModel", "gainOf", "(III)I"⟩, 60) := ⟨⟨by decide +kernel, by decide +kernel⟩, List.mem_of_getElem? (i := 1245) (by decide +kernel), List.mem_of_getElem? (i := 1883) (by decide +kernel), List.mem_of_getElem? (i := 1884) (by decide +kernel)⟩
def lw_privs_7 : List (MethodName × Nat) := [(⟨"DeckChairsModel", "keepAct", "()V"⟩, 60), (⟨"DeckChairsModel", "goHour", "(Z)I"⟩, 60), (⟨"DeckChairsModel", "goChange", "(II)V"⟩, 60), (⟨"DeckChairsModel", "swapAll", "()V"⟩, 60), (⟨"DeckChairsModel", "openSet", "()I"⟩, 60), (⟨"DeckChairsModel", "bestSeating", "(I)I"⟩, 60), (⟨"DeckChairsModel", "chairsIn", "(I)I"⟩, 60), (⟨"DeckChairsModel", "digit", "(II)I"⟩, 60), (⟨"DeckChairsModel", "partIn", "(III)I"⟩, 60), (⟨"DeckChairsModel", "layChairs", "(I)V"⟩, 60), (⟨"DeckChairsModel", "hadIn", "(II)I"⟩, 60), (⟨"DeckChairsModel", "ringOf", "(I)I"⟩, 60), (⟨"DeckChairsModel", "layMoves", "()V"⟩, 60), (⟨"DeckChairsModel", "isFree", "(I)Z"⟩, 60), (⟨"DeckChairsModel", "isRest", "(IIII)Z"⟩, 60), (⟨"DeckChairsModel", "gainOf", "(III)I"⟩, 60)]
theorem lw_r7 : ∀ q ∈ lw_privs_7, lw_okq q := List.forall_mem_cons.mpr ⟨lw_p96, List.forall_mem_cons.mpr ⟨lw_p97, List.forall_mem_cons.mpr ⟨lw_p98, List.forall_mem_cons.mpr ⟨lw_p99, List.forall_mem_cons.mpr ⟨lw_p100, List.forall_mem_cons.mpr ⟨lw_p101, List.forall_mem_cons.mpr ⟨lw_p102, List.forall_mem_cons.mpr ⟨lw_p103, List.forall_mem_cons.mpr ⟨lw_p104, List.forall_mem_cons.mpr ⟨lw_p105, List.forall_mem_cons.mpr ⟨lw_p106, List.forall_mem_cons.mpr ⟨lw_p107, List.forall_mem_cons.mpr ⟨lw_p108, List.forall_mem_cons.mpr ⟨lw_p109, List.forall_mem_cons.mpr ⟨lw_p110, List.forall_mem_cons.mpr ⟨lw_p111, fun _ h => absurd h List.not_mem_nil⟩⟩⟩⟩⟩⟩⟩⟩⟩⟩⟩⟩⟩⟩⟩⟩
theorem lw_p112 : lw_okq (⟨"DeckChairsModel", "layHad", "()V"⟩, 60) := ⟨⟨by decide +kernel, by decide +kernel⟩, List.mem_of_getElem? (i := 1245) (by decide +kernel), List.mem_of_getElem? (i := 1910) (by decide +kernel), List.mem_of_getElem? (i := 1911) (by decide +kernel)⟩
theorem lw_p113 : lw_okq (⟨"DeckChairsModel", "doesFit", "(II)Z"⟩, 60) := ⟨⟨by decide +kernel, by decide +kernel⟩, List.mem_of_getElem? (i := 1245) (by decide +kernel), List.mem_of_getElem? (i := 1914) (by decide +kernel), List.mem_of_getElem? (i := 1915) (by decide +kernel)⟩
theorem lw_p114 : lw_okq (⟨"DeckChairsModel", "mostOf", "(II)I"⟩, 60) := ⟨⟨by decide +kernel, by decide +kernel⟩, List.mem_of_getElem? (i := 1245) (by decide +kernel), List.mem_of_getElem? (i := 1927) (by decide +kernel), List.mem_of_getElem? (i := 1928) (by decide +kernel)⟩
def lw_privs_8 : List (MethodName × Nat) := [(⟨"DeckChairsModel", "layHad", "()V"⟩, 60), (⟨"DeckChairsModel", "doesFit", "(II)Z"⟩, 60), (⟨"DeckChairsModel", "mostOf", "(II)I"⟩, 60)]
theorem lw_r8 : ∀ q ∈ lw_privs_8, lw_okq q := List.forall_mem_cons.mpr ⟨lw_p112, List.forall_mem_cons.mpr ⟨lw_p113, List.forall_mem_cons.mpr ⟨lw_p114, fun _ h => absurd h List.not_mem_nil⟩⟩⟩
def lw_privs : List (MethodName × Nat) := lw_privs_1 ++ (lw_privs_2 ++ (lw_privs_3 ++ (lw_privs_4 ++ (lw_privs_5 ++ (lw_privs_6 ++ (lw_privs_7 ++ (lw_privs_8)))))))
def lw_tbl : List Cond := k2_sels lw_privs ++ tables_1
theorem lw_privs_ok : ∀ q ∈ lw_privs, lw_okq q := by
  show ∀ q ∈ lw_privs_1 ++ (lw_privs_2 ++ (lw_privs_3 ++ (lw_privs_4 ++ (lw_privs_5 ++ (lw_privs_6 ++ (lw_privs_7 ++ (lw_privs_8))))))), lw_okq q
  exact List.forall_mem_append.mpr ⟨lw_r1, List.forall_mem_append.mpr ⟨lw_r2, List.forall_mem_append.mpr ⟨lw_r3, List.forall_mem_append.mpr ⟨lw_r4, List.forall_mem_append.mpr ⟨lw_r5, List.forall_mem_append.mpr ⟨lw_r6, List.forall_mem_append.mpr ⟨lw_r7, lw_r8⟩⟩⟩⟩⟩⟩⟩
end
section
/-! An executor of bytecode over a picture of the heap. Values: an int, a reference (or null), a long, an int of the script by its place, an object from before the law, some int.
A cell: an array (its type's number, its contents) or an object (its class's number, its fields). All is written so that the kernel has every number at hand when it goes on. -/
abbrev zx_V : Type := Nat ⊕ Option Nat ⊕ Nat ⊕ Nat ⊕ Nat ⊕ Unit
abbrev zx_E : Type := (Nat × List zx_V) ⊕ (Nat × List zx_V)
abbrev zx_Wd : Type := List zx_E
abbrev zx_G : Type := List (Int × Int)
abbrev zx_L : Type := List (Nat × zx_V)
abbrev zx_O : Type := zx_G × zx_Wd × (Option zx_V ⊕ (Nat × Nat × zx_L × List zx_V))
abbrev zx_R : Type := Option (List zx_O)
/-- depth, method, breakpoint, most cells, most slots -/
abbrev zx_Fr : Type := Nat × Nat × Nat × Nat × Nat
abbrev zx_Rec : Type := zx_Fr → zx_G → zx_Wd → Nat → Nat → zx_L → List zx_V → Nat → zx_R
abbrev zx_Hd : Type := zx_Rec → zx_Rec
abbrev zx_RI : Type := Instr × Nat × Nat × List Nat
noncomputable def zx_n {α : Type} (n : Nat) (f : Nat → α) : α := Nat.rec (motive := fun _ => α) (f 0) (fun m _ => f (Nat.succ m)) n
noncomputable def zx_i {α : Type} (x : Int) (f : Int → α) : α := Int.rec (motive := fun _ => α) (fun n => zx_n n fun n => f (Int.ofNat n)) (fun n => zx_n n fun n => f (Int.negSucc n)) x
noncomputable def zx_get (l : zx_L) (i : Nat) (k : zx_V → zx_R) : zx_R := List.rec (motive := fun _ => zx_R) none (fun q _ ih => cond (Nat.beq q.1 i) (k q.2) ih) l
noncomputable def zx_fil (bad : Nat × zx_V → Bool) (l : zx_L) : (zx_L → zx_R) → zx_R := List.rec (motive := fun _ => (zx_L → zx_R) → zx_R) (fun k => k []) (fun q _ ih k => cond (bad q) (ih k) (ih fun r => k (q :: r))) l
noncomputable def zx_at {α : Type} (l : List α) (k : α → zx_R) : Nat → zx_R := List.rec (motive := fun _ => Nat → zx_R) (fun _ => none) (fun x _ ih i => Nat.rec (motive := fun _ => zx_R) (k x) (fun j _ => ih j) i) l
noncomputable def zx_set {α : Type} (v : α) (l : List α) : Nat → (List α → zx_R) → zx_R := List.rec (motive := fun _ => Nat → (List α → zx_R) → zx_R) (fun _ _ => none) (fun x t ih i k => Nat.rec (motive := fun _ => zx_R) (k (v :: t)) (fun j _ => ih j fun r => k (x :: r)) i) l
noncomputable def zx_snoc {α : Type} (v : α) (l : List α) : (List α → zx_R) → zx_R := List.rec (motive := fun _ => (List α → zx_R) → zx_R) (fun k => k [v]) (fun x _ ih k => ih fun r => k (x :: r)) l
noncomputable def zx_len {α : Type} (l : List α) : Nat := List.rec (motive := fun _ => Nat) 0 (fun _ _ ih => Nat.succ ih) l
/-- the rest behind i -/
noncomputable def zx_drop {α : Type} (l : List α) : Nat → (List α → zx_R) → zx_R := List.rec (motive := fun _ => Nat → (List α → zx_R) → zx_R) (fun i k => Nat.rec (motive := fun _ => zx_R) (k []) (fun _ _ => none) i) (fun x t ih i k => Nat.rec (motive := fun _ => zx_R) (k (x :: t)) (fun j _ => ih j k) i) l
/-- the first n of l, put over the first n of m -/
noncomputable def zx_over {α : Type} (l : List α) : Nat → List α → (List α → zx_R) → zx_R := List.rec (motive := fun _ => Nat → List α → (List α → zx_R) → zx_R) (fun n m k => Nat.rec (motive := fun _ => zx_R) (k m) (fun _ _ => none) n)
  (fun x _ ih n m k => Nat.rec (motive := fun _ => zx_R) (k m) (fun j _ => List.rec (motive := fun _ => zx_R) none (fun _ m' _ => ih j m' fun r => k (x :: r)) m) n) l
/-- behind the first d of m: l's first n over it -/
noncomputable def zx_into {α : Type} (l : List α) (n : Nat) (m : List α) : Nat → (List α → zx_R) → zx_R := List.rec (motive := fun _ => Nat → (List α → zx_R) → zx_R) (fun d k => Nat.rec (motive := fun _ => zx_R) (zx_over l n [] k) (fun _ _ => none) d)
  (fun x t ih d k => Nat.rec (motive := fun _ => zx_R) (zx_over l n (x :: t) k) (fun j _ => ih j fun r => k (x :: r)) d) m
def zx_isI (v : zx_V) : Bool := match v with
  | .inl _ => true
  | .inr (.inr (.inr (.inl _))) => true
  | .inr (.inr (.inr (.inr (.inr _)))) => true
  | _ => false
def zx_isA (v : zx_V) : Bool := match v with
  | .inr (.inl _) => true
  | .inr (.inr (.inr (.inr (.inl _)))) => true
  | _ => false
def zx_isL (v : zx_V) : Bool := match v with
  | .inr (.inr (.inl _)) => true
  | _ => false
def zx_top : zx_V := .inr (.inr (.inr (.inr (.inr ()))))
/-- what a field or an answer of a kind may hold: int, boolean, reference, long, char -/
def zx_fit (t : Nat) (v : zx_V) : Bool := match t with
  | 0 => zx_isI v
  | 1 => (match v with | .inl n => Nat.ble n 1 | _ => false)
  | 2 => zx_isA v
  | 3 => zx_isL v
  | 4 => (match v with | .inl n => Nat.ble n 127 | _ => false)
  | _ => (match v with | .inl n => Nat.ble n 127 | _ => false)
def zx_dep (st : List zx_V) : Nat := match st with
  | [] => 0
  | v :: r => cond (zx_isL v) 2 1 + zx_dep r
noncomputable def zx_u (x : Int) : Nat := (x % 4294967296).toNat
/-- a script's int whose range is one number is that number -/
noncomputable def zx_nm (g : zx_G) (v : zx_V) (k : zx_V → zx_R) : zx_R := match v with
  | .inr (.inr (.inr (.inl i))) => zx_at g (fun q => cond (decide (q.1 = q.2)) (zx_n (zx_u q.1) fun n => k (.inl n)) (k v)) i
  | _ => k v
def zx_push (v : zx_V) (nx : Nat) : zx_Hd := fun rec fr g w cs sl lo st _ => rec fr g w cs sl lo (v :: st) nx
noncomputable def zx_load (ok : zx_V → Bool) (i nx : Nat) : zx_Hd := fun rec fr g w cs sl lo st _ => zx_get lo i fun v => cond (ok v) (rec fr g w cs sl lo (v :: st) nx) none
noncomputable def zx_sto1 (ok : zx_V → Bool) (i nx : Nat) : zx_Hd := fun rec fr g w cs sl lo st _ => match st with
  | v :: r => cond (ok v) (zx_fil (fun q => Nat.beq q.1 i || (Nat.beq (Nat.succ q.1) i && zx_isL q.2)) lo fun lo2 => rec fr g w cs sl ((i, v) :: lo2) r nx) none
  | _ => none
noncomputable def zx_sto2 (i nx : Nat) : zx_Hd := fun rec fr g w cs sl lo st _ => match st with
  | v :: r => cond (zx_isL v) (zx_fil (fun q => Nat.beq q.1 i || (Nat.beq q.1 (Nat.succ i) || (Nat.beq (Nat.succ q.1) i && zx_isL q.2))) lo fun lo2 => rec fr g w cs sl ((i, v) :: lo2) r nx) none
  | _ => none
noncomputable def zx_bop (f : Nat → Nat → Nat) (a b : zx_V) (k : zx_V → zx_R) : zx_R := match a with
  | .inl x => (match b with
    | .inl y => zx_n (f x y) fun n => k (.inl n)
    | v => cond (zx_isI v) (k zx_top) none)
  | u => cond (zx_isI u && zx_isI b) (k zx_top) none
/-- a sum: 0 and a script's int is that int -/
noncomputable def zx_add (a b : zx_V) (k : zx_V → zx_R) : zx_R := match a with
  | .inl x => (match b with
    | .inl y => zx_n ((x + y) % 4294967296) fun n => k (.inl n)
    | v => cond (zx_isI v) (cond (Nat.beq x 0) (k v) (k zx_top)) none)
  | u => (match b with
    | .inl y => cond (zx_isI u) (cond (Nat.beq y 0) (k u) (k zx_top)) none
    | v => cond (zx_isI u && zx_isI v) (k zx_top) none)
noncomputable def zx_bin (f : zx_V → zx_V → (zx_V → zx_R) → zx_R) (nx : Nat) : zx_Hd := fun rec fr g w cs sl lo st _ => match st with
  | b :: a :: r => f a b fun v => rec fr g w cs sl lo (v :: r) nx
  | _ => none
noncomputable def zx_una (f : zx_V → (zx_V → zx_R) → zx_R) (nx : Nat) : zx_Hd := fun rec fr g w cs sl lo st _ => match st with
  | a :: r => f a fun v => rec fr g w cs sl lo (v :: r) nx
  | _ => none
noncomputable def zx_inc (i : Nat) (c : Nat) (nx : Nat) : zx_Hd := fun rec fr g w cs sl lo st _ => zx_get lo i fun v => zx_add v (.inl c) fun u => zx_fil (fun q => Nat.beq q.1 i || (Nat.beq (Nat.succ q.1) i && zx_isL q.2)) lo fun lo2 => rec fr g w cs sl ((i, u) :: lo2) st nx
/-- a division or its rest: by what isn't 0 -/
noncomputable def zx_div (f : Nat → Nat → Nat) (a b : zx_V) (k : zx_V → zx_R) : zx_R := match a with
  | .inl x => (match b with
    | .inl y => cond (Nat.beq (y % 4294967296) 0) none (zx_n (f x y) fun n => k (.inl n))
    | _ => none)
  | _ => none
noncomputable def zx_lop (f : Nat → Nat → Nat) (a b : zx_V) (k : zx_V → zx_R) : zx_R := match a with
  | .inr (.inr (.inl x)) => (match b with
    | .inr (.inr (.inl y)) => zx_n (f x y) fun n => k (.inr (.inr (.inl n)))
    | _ => none)
  | _ => none
/-- a conversion of an int: to an int (exact, or some), to a long -/
noncomputable def zx_cvI (f : Nat → Nat) (a : zx_V) (k : zx_V → zx_R) : zx_R := match a with
  | .inl x => zx_n (f x) fun n => k (.inl n)
  | v => cond (zx_isI v) (k zx_top) none
noncomputable def zx_cvL (f : Nat → Nat) (a : zx_V) (k : zx_V → zx_R) : zx_R := match a with
  | .inl x => zx_n (f x) fun n => k (.inr (.inr (.inl n)))
  | _ => none
def zx_bs (n : Nat) : Nat := (n + 2147483648) % 4294967296
def zx_cmp (c : ClassFile.Cond) (a b : Nat) : Bool := match c with
  | .eq => Nat.beq (zx_bs a) (zx_bs b)
  | .ne => !Nat.beq (zx_bs a) (zx_bs b)
  | .lt => Nat.ble (Nat.succ (zx_bs a)) (zx_bs b)
  | .ge => Nat.ble (zx_bs b) (zx_bs a)
  | .gt => Nat.ble (Nat.succ (zx_bs b)) (zx_bs a)
  | .le => Nat.ble (zx_bs a) (zx_bs b)
def zx_neg (c : ClassFile.Cond) : ClassFile.Cond := match c with
  | .eq => .ne | .ne => .eq | .lt => .ge | .ge => .lt | .gt => .le | .le => .gt
def zx_mir (c : ClassFile.Cond) : ClassFile.Cond := match c with
  | .eq => .eq | .ne => .ne | .lt => .gt | .ge => .le | .gt => .lt | .le => .ge
/-- the signed number of a word -/
def zx_s (n : Nat) : Int := (Int.ofNat (zx_bs n)) - 2147483648
/-- a range, made smaller by what a comparison with t says -/
noncomputable def zx_ref (c : ClassFile.Cond) (t lo hi : Int) : Int × Int := match c with
  | .eq => (cond (decide (lo ≤ t)) t lo, cond (decide (t ≤ hi)) t hi)
  | .ne => (cond (decide (lo = t)) (t + 1) lo, cond (decide (hi = t)) (t - 1) hi)
  | .lt => (lo, cond (decide (t ≤ hi)) (t - 1) hi)
  | .ge => (cond (decide (lo ≤ t)) t lo, hi)
  | .gt => (cond (decide (lo ≤ t)) (t + 1) lo, hi)
  | .le => (lo, cond (decide (t ≤ hi)) t hi)
/-- two ways: each that can be gone is gone -/
noncomputable def zx_two (p q : Bool) (x y : zx_R) : zx_R := cond p (cond q (match x with
    | none => none
    | some l => (match y with
      | none => none
      | some l2 => some (l ++ l2))) x) (cond q y (some []))
noncomputable def zx_fork (c : ClassFile.Cond) (i : Nat) (t : Int) (g : zx_G) (kt kf : zx_G → zx_R) : zx_R := zx_at g (fun q =>
  zx_i (zx_ref c t q.1 q.2).1 fun l1 => zx_i (zx_ref c t q.1 q.2).2 fun h1 => zx_i (zx_ref (zx_neg c) t q.1 q.2).1 fun l2 => zx_i (zx_ref (zx_neg c) t q.1 q.2).2 fun h2 =>
    zx_two (decide (l1 ≤ h1)) (decide (l2 ≤ h2)) (zx_set (l1, h1) g i kt) (zx_set (l2, h2) g i kf)) i
noncomputable def zx_br (c : ClassFile.Cond) (a b : zx_V) (g : zx_G) (kt kf : zx_G → zx_R) : zx_R := zx_nm g a fun a => zx_nm g b fun b => match a with
  | .inl x => (match b with
    | .inl y => cond (zx_cmp c x y) (kt g) (kf g)
    | .inr (.inr (.inr (.inl i))) => zx_i (zx_s x) fun t => zx_fork (zx_mir c) i t g kt kf
    | _ => none)
  | .inr (.inr (.inr (.inl i))) => (match b with
    | .inl y => zx_i (zx_s y) fun t => zx_fork c i t g kt kf
    | .inr (.inr (.inr (.inl j))) => cond (Nat.beq i j) (cond (zx_cmp c 0 0) (kt g) (kf g)) none
    | _ => none)
  | _ => none
noncomputable def zx_if1 (c : ClassFile.Cond) (tgt nx : Nat) : zx_Hd := fun rec fr g w cs sl lo st _ => match st with
  | a :: r => zx_br c a (.inl 0) g (fun g => rec fr g w cs sl lo r tgt) (fun g => rec fr g w cs sl lo r nx)
  | _ => none
noncomputable def zx_if2 (c : ClassFile.Cond) (tgt nx : Nat) : zx_Hd := fun rec fr g w cs sl lo st _ => match st with
  | b :: a :: r => zx_br c a b g (fun g => rec fr g w cs sl lo r tgt) (fun g => rec fr g w cs sl lo r nx)
  | _ => none
def zx_goto (tgt : Nat) : zx_Hd := fun rec fr g w cs sl lo st _ => rec fr g w cs sl lo st tgt
/-- the table's targets from lo on; the other one ahead of them -/
noncomputable def zx_tsw (lo : Int) (tg : List Nat) : zx_Hd := fun rec fr g w cs sl lo2 st _ => match st with
  | v :: r => zx_nm g v fun v => (match v with
    | .inl n => (match tg with
      | d :: ts => zx_i (zx_s n - lo) fun x => (match x with
        | Int.ofNat j => List.rec (motive := fun _ => Nat → zx_R) (fun _ => rec fr g w cs sl lo2 r d) (fun t _ ih j => Nat.rec (motive := fun _ => zx_R) (rec fr g w cs sl lo2 r t) (fun i _ => ih i) j) ts j
        | Int.negSucc _ => rec fr g w cs sl lo2 r d)
      | _ => none)
    | .inr (.inr (.inr (.inl i))) => (match tg with
      | d :: ts => zx_at g (fun q => cond (decide (q.2 < lo) || decide (lo + ts.length ≤ q.1)) (rec fr g w cs sl lo2 r d) none) i
      | _ => none)
    | _ => none)
  | _ => none
def zx_stk (f : List zx_V → Option (List zx_V)) (nx : Nat) : zx_Hd := fun rec fr g w cs sl lo st _ => match f st with
  | some s2 => rec fr g w cs sl lo s2 nx
  | none => none
def zx_dup (st : List zx_V) : Option (List zx_V) := match st with
  | a :: r => cond (zx_isL a) none (some (a :: a :: r))
  | _ => none
def zx_pop (st : List zx_V) : Option (List zx_V) := match st with
  | a :: r => cond (zx_isL a) none (some r)
  | _ => none
def zx_dup2 (st : List zx_V) : Option (List zx_V) := match st with
  | b :: a :: r => cond (zx_isL a || zx_isL b) none (some (b :: a :: b :: a :: r))
  | _ => none
def zx_dupx (st : List zx_V) : Option (List zx_V) := match st with
  | a :: b :: r => cond (zx_isL a || zx_isL b) none (some (a :: b :: a :: r))
  | _ => none
noncomputable def zx_gf (ci j nx : Nat) : zx_Hd := fun rec fr g w cs sl lo st _ => match st with
  | .inr (.inl (some a)) :: r => zx_at w (fun c => match c with
    | .inr q => cond (Nat.beq q.1 ci) (zx_at q.2 (fun x => rec fr g w cs sl lo (x :: r) nx) j) none
    | .inl _ => none) a
  | _ => none
noncomputable def zx_pf (ci j t nx : Nat) : zx_Hd := fun rec fr g w cs sl lo st _ => match st with
  | x :: .inr (.inl (some a)) :: r => cond (zx_fit t x) (zx_at w (fun c => match c with
    | .inr q => cond (Nat.beq q.1 ci) (zx_set x q.2 j fun fs => zx_set (.inr (ci, fs)) w a fun w2 => rec fr g w2 cs sl lo r nx) none
    | .inl _ => none) a) none
  | _ => none
/-- a field of an object from before the law -/
noncomputable def zx_xgf (fs : List (Nat × zx_V)) (nx : Nat) : zx_Hd := fun rec fr g w cs sl lo st _ => match st with
  | .inr (.inr (.inr (.inr (.inl a)))) :: r => zx_get fs a fun x => rec fr g w cs sl lo (x :: r) nx
  | _ => none
noncomputable def zx_new (ci N : Nat) (fs : List zx_V) (nx : Nat) : zx_Hd := fun rec fr g w cs sl lo st _ => zx_n (cs + 1) fun cs2 => zx_n (sl + N) fun sl2 => cond (Nat.ble cs2 fr.2.2.2.1 && Nat.ble sl2 fr.2.2.2.2)
  (zx_n (zx_len w) fun a => zx_snoc (.inr (ci, fs)) w fun w2 => rec fr g w2 cs2 sl2 lo (.inr (.inl (some a)) :: st) nx) none
noncomputable def zx_newa (t : Nat) (v : zx_V) (nx : Nat) : zx_Hd := fun rec fr g w cs sl lo st _ => match st with
  | .inl n :: r => zx_n (cs + 1) fun cs2 => zx_n (sl + n) fun sl2 => cond (Nat.ble cs2 fr.2.2.2.1 && Nat.ble sl2 fr.2.2.2.2 && Nat.ble n 1000000)
    (zx_n (zx_len w) fun a => zx_snoc (.inl (t, List.replicate n v)) w fun w2 => rec fr g w2 cs2 sl2 lo (.inr (.inl (some a)) :: r) nx) none
  | _ => none
noncomputable def zx_alen (xa : List (Nat × Nat × List zx_V)) (nx : Nat) : zx_Hd := fun rec fr g w cs sl lo st _ => match st with
  | .inr (.inl (some a)) :: r => zx_at w (fun c => match c with
    | .inl q => zx_n (zx_len q.2) fun n => rec fr g w cs sl lo (.inl n :: r) nx
    | .inr _ => none) a
  | .inr (.inr (.inr (.inr (.inl a)))) :: r => List.rec (motive := fun _ => zx_R) none (fun q _ ih => cond (Nat.beq q.1 a) (zx_n (zx_len q.2.2) fun n => rec fr g w cs sl lo (.inl n :: r) nx) ih) xa
  | _ => none
noncomputable def zx_ald (xa : List (Nat × Nat × List zx_V)) (ts : Nat → Bool) (nx : Nat) : zx_Hd := fun rec fr g w cs sl lo st _ => match st with
  | i :: .inr (.inl (some a)) :: r => zx_nm g i fun i => (match i with
    | .inl n => zx_at w (fun c => match c with
      | .inl q => cond (ts q.1 && Nat.ble n 1000000) (zx_at q.2 (fun x => rec fr g w cs sl lo (x :: r) nx) n) none
      | .inr _ => none) a
    | _ => none)
  | i :: .inr (.inr (.inr (.inr (.inl a)))) :: r => zx_nm g i fun i => (match i with
    | .inl n => List.rec (motive := fun _ => zx_R) none (fun q _ ih => cond (Nat.beq q.1 a) (cond (ts q.2.1 && Nat.ble n 1000000) (zx_at q.2.2 (fun x => zx_nm g x fun x => rec fr g w cs sl lo (x :: r) nx) n) none) ih) xa
    | _ => none)
  | _ => none
/-- what an array of a type keeps of a value -/
noncomputable def zx_nar (t : Nat) (x : zx_V) (k : zx_V → zx_R) : zx_R := match t with
  | 0 => cond (zx_isI x) (k x) none
  | 1 => zx_cvI (fun n => (vp_nar .byte (Int32.ofNat n)).toUInt32.toNat) x k
  | 2 => zx_cvI (fun n => (vp_nar .boolean (Int32.ofNat n)).toUInt32.toNat) x k
  | _ => cond (zx_isL x) (k x) none
noncomputable def zx_ast (ts : Nat → Bool) (nx : Nat) : zx_Hd := fun rec fr g w cs sl lo st _ => match st with
  | x :: i :: .inr (.inl (some a)) :: r => zx_nm g i fun i => (match i with
    | .inl n => zx_at w (fun c => match c with
      | .inl q => cond (ts q.1 && Nat.ble n 1000000) (zx_nar q.1 x fun y => zx_set y q.2 n fun vs => zx_set (.inl (q.1, vs)) w a fun w2 => rec fr g w2 cs sl lo r nx) none
      | .inr _ => none) a
    | _ => none)
  | _ => none
noncomputable def zx_cpy (nx : Nat) : zx_Hd := fun rec fr g w cs sl lo st _ => match st with
  | .inl n :: .inl dp :: .inr (.inl (some d)) :: .inl sp :: .inr (.inl (some s)) :: r => cond (Nat.ble n 1000000 && Nat.ble dp 1000000 && Nat.ble sp 1000000 && Nat.ble (zx_dep r) 8 && Nat.ble 1 fr.1) (zx_at w (fun c => match c with
    | .inl q => cond (Nat.beq q.1 0) (zx_at w (fun c2 => match c2 with
      | .inl q2 => cond (Nat.beq q2.1 0) (zx_drop q.2 sp fun l => zx_into l n q2.2 dp fun vs => zx_set (.inl (0, vs)) w d fun w2 => rec fr g w2 cs sl lo r nx) none
      | .inr _ => none) d) none
    | .inr _ => none) s) none
  | _ => none
noncomputable def zx_args (is : List Nat) : List zx_V → zx_L → (zx_L → List zx_V → zx_R) → zx_R := List.rec (motive := fun _ => List zx_V → zx_L → (zx_L → List zx_V → zx_R) → zx_R) (fun st lo k => k lo st) (fun i _ ih st lo k => match st with
  | v :: r => ih r ((i, v) :: lo) k
  | [] => none) is
/-- the receiver: 0 none; 1 an object from before of the numbers told; else an object of class ci -/
noncomputable def zx_rcv (rk ci : Nat) (w : zx_Wd) (lo : zx_L) (k : zx_R) : zx_R := match rk with
  | 0 => k
  | 1 => (match lo with
    | (_, .inr (.inr (.inr (.inr (.inl a))))) :: _ => cond (Nat.beq a 2 || Nat.beq a 3) k none
    | _ => none)
  | _ => (match lo with
    | (_, .inr (.inl (some a))) :: _ => zx_at w (fun c => match c with
      | .inr q => cond (Nat.beq q.1 ci) k none
      | .inl _ => none) a
    | _ => none)
noncomputable def zx_each (l : List zx_O) (f : zx_O → zx_R) : zx_R := List.rec (motive := fun _ => zx_R) (some []) (fun o t ih => match t with
  | [] => f o
  | _ :: _ => (match f o with
    | none => none
    | some l1 => (match ih with
      | none => none
      | some l2 => some (l1 ++ l2)))) l
/-- the arguments' places: one behind the other, a long takes two; not more than mx -/
noncomputable def zx_pos (mx : Nat) (l : zx_L) : Nat → Bool := List.rec (motive := fun _ => Nat → Bool) (fun n => Nat.ble n mx) (fun q _ ih n => cond (Nat.beq q.1 n) (cond (zx_isL q.2) (ih (n + 2)) (ih (n + 1))) false) l
noncomputable def zx_call (rk ci k mc ms mx : Nat) (is : List Nat) (nx : Nat) : zx_Hd := fun rec fr g w cs sl lo st _ => zx_args is st [] fun av r => cond (Nat.ble (zx_dep r) 8 && zx_pos mx av 0) (zx_rcv rk ci w av (zx_n (cs + mc) fun cs2 => zx_n (sl + ms) fun sl2 => cond (Nat.ble cs2 fr.2.2.2.1 && Nat.ble sl2 fr.2.2.2.2)
  (Nat.rec (motive := fun _ => zx_R) none (fun d _ => match rec (d, k, 1000000, mc, ms) g w 0 0 av [] 0 with
    | none => none
    | some outs => zx_each outs fun o => (match o.2.2 with
      | .inl none => rec fr o.1 o.2.1 cs2 sl2 lo r nx
      | .inl (some v) => rec fr o.1 o.2.1 cs2 sl2 lo (v :: r) nx
      | .inr _ => none)) fr.1) none)) none
/-- Object's own constructor -/
def zx_oin (nx : Nat) : zx_Hd := fun rec fr g w cs sl lo st _ => match st with
  | .inr (.inl (some _)) :: r => cond (Nat.ble (zx_dep r) 8 && Nat.ble 1 fr.1) (rec fr g w cs sl lo r nx) none
  | _ => none
/-- Math.max, Math.min -/
noncomputable def zx_mmx (nx : Nat) : zx_Hd := fun rec fr g w cs sl lo st _ => match st with
  | .inl y :: .inl x :: r => cond (Nat.ble (zx_dep r) 8 && Nat.ble 1 fr.1) (cond (zx_cmp .lt x y) (rec fr g w cs sl lo (.inl y :: r) nx) (rec fr g w cs sl lo (.inl x :: r) nx)) none
  | _ => none
noncomputable def zx_mmn (nx : Nat) : zx_Hd := fun rec fr g w cs sl lo st _ => match st with
  | .inl y :: .inl x :: r => cond (Nat.ble (zx_dep r) 8 && Nat.ble 1 fr.1) (cond (zx_cmp .lt y x) (rec fr g w cs sl lo (.inl y :: r) nx) (rec fr g w cs sl lo (.inl x :: r) nx)) none
  | _ => none
def zx_ret (t : Nat) : zx_Hd := fun _ _ g w _ _ _ st _ => match st with
  | [v] => cond (zx_fit t v) (some [(g, w, .inl (some v))]) none
  | _ => none
def zx_vret : zx_Hd := fun _ _ g w _ _ _ st _ => match st with
  | [] => some [(g, w, .inl none)]
  | _ => none
def zx_bad : zx_Hd := fun _ _ _ _ _ _ _ _ _ => none
noncomputable def zx_i2 (f : Int32 → Int32 → Int32) (a b : Nat) : Nat := (f (Int32.ofNat a) (Int32.ofNat b)).toUInt32.toNat
noncomputable def zx_l2 (f : Int64 → Int64 → Int64) (a b : Nat) : Nat := (f (Int64.ofNat a) (Int64.ofNat b)).toUInt64.toNat
end
section
/-! tables, by program (wip/p1/gen.py): classes and fields, what was there before the law, methods and their instructions with what they link -/
def zx_T0 : u_T := fun k => match k with
  | 0 => ("DeckChairs$Duel", "firstChair", "I", false)
  | 1 => ("DeckChairs$Duel", "otherChair", "I", false)
  | 2 => ("DeckChairs$Duel", "hisWorth", "[I", true)
  | _ => ("DeckChairs$Duel", "othersWorth", "[I", true)
def zx_y0 : Nat → FieldType := fun k => match k with
  | 0 => .int
  | 1 => .int
  | 2 => (.array .int)
  | _ => (.array .int)
def zx_T1 : u_T := fun k => match k with
  | 0 => ("DeckChairs$Formula", "told", "Z", false)
  | 1 => ("DeckChairs$Formula", "units", "I", false)
  | 2 => ("DeckChairs$Formula", "steps", "I", false)
  | 3 => ("DeckChairs$Formula", "kinds", "[I", true)
  | 4 => ("DeckChairs$Formula", "numbers", "[I", true)
  | 5 => ("DeckChairs$Formula", "stack", "[I", true)
  | _ => ("DeckChairs$Formula", "given", "[I", true)
def zx_y1 : Nat → FieldType := fun k => match k with
  | 0 => .boolean
  | 1 => .int
  | 2 => .int
  | 3 => (.array .int)
  | 4 => (.array .int)
  | 5 => (.array .int)
  | _ => (.array .int)
def zx_T2 : u_T := fun k => match k with
  | 0 => ("DeckChairs$Guesses", "count", "I", false)
  | 1 => ("DeckChairs$Guesses", "time", "I", false)
  | 2 => ("DeckChairs$Guesses", "chairs", "I", false)
  | 3 => ("DeckChairs$Guesses", "sitters", "I", false)
  | 4 => ("DeckChairs$Guesses", "worth", "[I", true)
  | 5 => ("DeckChairs$Guesses", "chair", "[I", true)
  | 6 => ("DeckChairs$Guesses", "much", "[I", true)
  | 7 => ("DeckChairs$Guesses", "isSo", "[Z", true)
  | 8 => ("DeckChairs$Guesses", "toldAt", "[I", true)
  | 9 => ("DeckChairs$Guesses", "untoldAt", "[I", true)
  | _ => ("DeckChairs$Guesses", "tally", "[I", true)
def zx_y2 : Nat → FieldType := fun k => match k with
  | 0 => .int
  | 1 => .int
  | 2 => .int
  | 3 => .int
  | 4 => (.array .int)
  | 5 => (.array .int)
  | 6 => (.array .int)
  | 7 => (.array .boolean)
  | 8 => (.array .int)
  | 9 => (.array .int)
  | _ => (.array .int)
def zx_T3 : u_T := fun k => match k with
  | 0 => ("DeckChairs$Hinge", "farthest", "I", true)
  | _ => ("DeckChairs$Hinge", "distance", "[I", true)
def zx_y3 : Nat → FieldType := fun k => match k with
  | 0 => .int
  | _ => (.array .int)
def zx_T4 : u_T := fun k => match k with
  | 0 => ("DeckChairs$Parser", "fault", "I", false)
  | 1 => ("DeckChairs$Parser", "faultPlace", "I", false)
  | 2 => ("DeckChairs$Parser", "tokens", "LDeckChairs$Tokens;", true)
  | 3 => ("DeckChairs$Parser", "next", "I", false)
  | 4 => ("DeckChairs$Parser", "kind", "I", false)
  | _ => ("DeckChairs$Parser", "target", "LDeckChairs$Told;", false)
def zx_y4 : Nat → FieldType := fun k => match k with
  | 0 => .int
  | 1 => .int
  | 2 => (.object "DeckChairs$Tokens")
  | 3 => .int
  | 4 => .int
  | _ => (.object "DeckChairs$Told")
def zx_T5 : u_T := fun k => match k with
  | 0 => ("DeckChairs$Past", "behind", "I", false)
  | 1 => ("DeckChairs$Past", "ahead", "I", false)
  | _ => ("DeckChairs$Past", "scenes", "LDeckChairs$Shelf;", true)
def zx_y5 : Nat → FieldType := fun k => match k with
  | 0 => .int
  | 1 => .int
  | _ => (.object "DeckChairs$Shelf")
def zx_T6 : u_T := fun k => match k with
  | 0 => ("DeckChairs$Scene", "told", "LDeckChairs$Told;", false)
  | 1 => ("DeckChairs$Scene", "joints", "[I", true)
  | 2 => ("DeckChairs$Scene", "sand", "[I", true)
  | 3 => ("DeckChairs$Scene", "place", "[I", true)
  | 4 => ("DeckChairs$Scene", "sat", "[I", true)
  | 5 => ("DeckChairs$Scene", "purse", "[I", true)
  | 6 => ("DeckChairs$Scene", "hadEver", "[I", true)
  | 7 => ("DeckChairs$Scene", "hours", "I", false)
  | _ => ("DeckChairs$Scene", "seed", "I", false)
def zx_y6 : Nat → FieldType := fun k => match k with
  | 0 => (.object "DeckChairs$Told")
  | 1 => (.array .int)
  | 2 => (.array .int)
  | 3 => (.array .int)
  | 4 => (.array .int)
  | 5 => (.array .int)
  | 6 => (.array .int)
  | 7 => .int
  | _ => .int
def zx_T7 : u_T := fun k => match k with
  | 0 => ("DeckChairs$Seater", "found", "[I", true)
  | 1 => ("DeckChairs$Seater", "tried", "[I", true)
  | 2 => ("DeckChairs$Seater", "worthAlone", "[I", true)
  | 3 => ("DeckChairs$Seater", "worthBeside", "[I", true)
  | 4 => ("DeckChairs$Seater", "own", "[I", true)
  | 5 => ("DeckChairs$Seater", "chairs", "I", false)
  | 6 => ("DeckChairs$Seater", "sitters", "I", false)
  | 7 => ("DeckChairs$Seater", "open", "I", false)
  | 8 => ("DeckChairs$Seater", "absent", "I", false)
  | 9 => ("DeckChairs$Seater", "foundSum", "I", false)
  | _ => ("DeckChairs$Seater", "foundChanges", "I", false)
def zx_y7 : Nat → FieldType := fun k => match k with
  | 0 => (.array .int)
  | 1 => (.array .int)
  | 2 => (.array .int)
  | 3 => (.array .int)
  | 4 => (.array .int)
  | 5 => .int
  | 6 => .int
  | 7 => .int
  | 8 => .int
  | 9 => .int
  | _ => .int
def zx_T8 : u_T := fun k => match k with
  | _ => ("DeckChairs$Shelf", "cells", "[I", true)
def zx_y8 : Nat → FieldType := fun k => match k with
  | _ => (.array .int)
def zx_T9 : u_T := fun k => match k with
  | 0 => ("DeckChairs$Tokens", "words", "[J", true)
  | 1 => ("DeckChairs$Tokens", "kinds", "[I", true)
  | 2 => ("DeckChairs$Tokens", "places", "[I", true)
  | 3 => ("DeckChairs$Tokens", "values", "[J", true)
  | 4 => ("DeckChairs$Tokens", "count", "I", false)
  | 5 => ("DeckChairs$Tokens", "text", "[B", false)
  | 6 => ("DeckChairs$Tokens", "length", "I", false)
  | _ => ("DeckChairs$Tokens", "at", "I", false)
def zx_y9 : Nat → FieldType := fun k => match k with
  | 0 => (.array .long)
  | 1 => (.array .int)
  | 2 => (.array .int)
  | 3 => (.array .long)
  | 4 => .int
  | 5 => (.array .byte)
  | 6 => .int
  | _ => .int
def zx_T10 : u_T := fun k => match k with
  | 0 => ("DeckChairs$Told", "chairs", "I", false)
  | 1 => ("DeckChairs$Told", "sitters", "I", false)
  | 2 => ("DeckChairs$Told", "gust", "I", false)
  | 3 => ("DeckChairs$Told", "draw", "I", false)
  | 4 => ("DeckChairs$Told", "gustTold", "Z", false)
  | 5 => ("DeckChairs$Told", "drawTold", "Z", false)
  | 6 => ("DeckChairs$Told", "chairNames", "[J", true)
  | 7 => ("DeckChairs$Told", "sitterNames", "[J", true)
  | 8 => ("DeckChairs$Told", "stripes", "[I", true)
  | 9 => ("DeckChairs$Told", "joints", "[I", true)
  | 10 => ("DeckChairs$Told", "purse", "[I", true)
  | 11 => ("DeckChairs$Told", "likes", "[I", true)
  | _ => ("DeckChairs$Told", "formula", "LDeckChairs$Formula;", true)
def zx_y10 : Nat → FieldType := fun k => match k with
  | 0 => .int
  | 1 => .int
  | 2 => .int
  | 3 => .int
  | 4 => .boolean
  | 5 => .boolean
  | 6 => (.array .long)
  | 7 => (.array .long)
  | 8 => (.array .int)
  | 9 => (.array .int)
  | 10 => (.array .int)
  | 11 => (.array .int)
  | _ => (.object "DeckChairs$Formula")
def zx_T11 : u_T := fun k => match k with
  | 0 => ("DeckChairs", "tape", "[B", true)
  | 1 => ("DeckChairs", "taped", "I", false)
  | 2 => ("DeckChairs", "parser", "LDeckChairs$Parser;", true)
  | 3 => ("DeckChairs", "told", "LDeckChairs$Told;", false)
  | 4 => ("DeckChairs", "spare", "LDeckChairs$Told;", false)
  | 5 => ("DeckChairs", "now", "LDeckChairs$Scene;", true)
  | 6 => ("DeckChairs", "thought", "LDeckChairs$Scene;", true)
  | 7 => ("DeckChairs", "past", "LDeckChairs$Past;", true)
  | 8 => ("DeckChairs", "boxes", "LDeckChairs$Shelf;", true)
  | 9 => ("DeckChairs", "boxFull", "[Z", true)
  | 10 => ("DeckChairs", "hinge", "LDeckChairs$Hinge;", true)
  | 11 => ("DeckChairs", "seater", "LDeckChairs$Seater;", true)
  | 12 => ("DeckChairs", "duel", "LDeckChairs$Duel;", true)
  | 13 => ("DeckChairs", "guesses", "LDeckChairs$Guesses;", true)
  | 14 => ("DeckChairs", "lying", "[I", true)
  | _ => ("DeckChairs", "lyingCount", "I", false)
def zx_y11 : Nat → FieldType := fun k => match k with
  | 0 => (.array .byte)
  | 1 => .int
  | 2 => (.object "DeckChairs$Parser")
  | 3 => (.object "DeckChairs$Told")
  | 4 => (.object "DeckChairs$Told")
  | 5 => (.object "DeckChairs$Scene")
  | 6 => (.object "DeckChairs$Scene")
  | 7 => (.object "DeckChairs$Past")
  | 8 => (.object "DeckChairs$Shelf")
  | 9 => (.array .boolean)
  | 10 => (.object "DeckChairs$Hinge")
  | 11 => (.object "DeckChairs$Seater")
  | 12 => (.object "DeckChairs$Duel")
  | 13 => (.object "DeckChairs$Guesses")
  | 14 => (.array .int)
  | _ => .int
def zx_T12 : u_T := fun k => match k with
  | 0 => ("DeckChairsModel", "tape", "[B", true)
  | 1 => ("DeckChairsModel", "text", "[B", true)
  | 2 => ("DeckChairsModel", "taped", "I", false)
  | 3 => ("DeckChairsModel", "size", "I", false)
  | 4 => ("DeckChairsModel", "faultKind", "I", false)
  | 5 => ("DeckChairsModel", "faultPlace", "I", false)
  | 6 => ("DeckChairsModel", "at", "I", false)
  | 7 => ("DeckChairsModel", "end", "I", false)
  | 8 => ("DeckChairsModel", "token", "I", false)
  | 9 => ("DeckChairsModel", "number", "I", false)
  | 10 => ("DeckChairsModel", "name", "J", false)
  | 11 => ("DeckChairsModel", "chairs", "[I", true)
  | 12 => ("DeckChairsModel", "sitters", "[I", true)
  | 13 => ("DeckChairsModel", "units", "[I", true)
  | 14 => ("DeckChairsModel", "gust", "[I", true)
  | 15 => ("DeckChairsModel", "draw", "[I", true)
  | 16 => ("DeckChairsModel", "told", "[I", true)
  | 17 => ("DeckChairsModel", "stripes", "[I", true)
  | 18 => ("DeckChairsModel", "jointTold", "[I", true)
  | 19 => ("DeckChairsModel", "purseTold", "[I", true)
  | 20 => ("DeckChairsModel", "likes", "[I", true)
  | 21 => ("DeckChairsModel", "ruleFrom", "[I", true)
  | 22 => ("DeckChairsModel", "ruleTo", "[I", true)
  | 23 => ("DeckChairsModel", "cName", "[J", true)
  | 24 => ("DeckChairsModel", "sName", "[J", true)
  | 25 => ("DeckChairsModel", "code", "[I", true)
  | 26 => ("DeckChairsModel", "codeNumber", "[I", true)
  | 27 => ("DeckChairsModel", "eWhat", "[I", true)
  | 28 => ("DeckChairsModel", "eSign", "[I", true)
  | 29 => ("DeckChairsModel", "pile", "[I", true)
  | 30 => ("DeckChairsModel", "bank", "I", false)
  | 31 => ("DeckChairsModel", "rb", "I", false)
  | 32 => ("DeckChairsModel", "codes", "I", false)
  | 33 => ("DeckChairsModel", "within", "I", false)
  | 34 => ("DeckChairsModel", "piled", "I", false)
  | 35 => ("DeckChairsModel", "unitsInRule", "I", false)
  | 36 => ("DeckChairsModel", "askSitter", "I", false)
  | 37 => ("DeckChairsModel", "askChair", "I", false)
  | 38 => ("DeckChairsModel", "askTaken", "I", false)
  | 39 => ("DeckChairsModel", "askSat", "I", false)
  | 40 => ("DeckChairsModel", "all", "[I", true)
  | 41 => ("DeckChairsModel", "kept", "[I", true)
  | 42 => ("DeckChairsModel", "thoughtLikes", "I", false)
  | 43 => ("DeckChairsModel", "was", "[I", true)
  | 44 => ("DeckChairsModel", "acts", "I", false)
  | 45 => ("DeckChairsModel", "undone", "I", false)
  | 46 => ("DeckChairsModel", "laidRow", "[I", true)
  | 47 => ("DeckChairsModel", "laid", "I", false)
  | 48 => ("DeckChairsModel", "movesFrom", "[I", true)
  | 49 => ("DeckChairsModel", "hadIf", "[I", true)
  | 50 => ("DeckChairsModel", "sChair", "[I", true)
  | 51 => ("DeckChairsModel", "sMuch", "[I", true)
  | 52 => ("DeckChairsModel", "sIs", "[I", true)
  | 53 => ("DeckChairsModel", "sTold", "[I", true)
  | 54 => ("DeckChairsModel", "sUntold", "[I", true)
  | 55 => ("DeckChairsModel", "parts", "[I", true)
  | 56 => ("DeckChairsModel", "seens", "I", false)
  | 57 => ("DeckChairsModel", "time", "I", false)
  | 58 => ("DeckChairsModel", "boxAll", "[I", true)
  | _ => ("DeckChairsModel", "isBoxed", "[Z", true)
def zx_y12 : Nat → FieldType := fun k => match k with
  | 0 => (.array .byte)
  | 1 => (.array .byte)
  | 2 => .int
  | 3 => .int
  | 4 => .int
  | 5 => .int
  | 6 => .int
  | 7 => .int
  | 8 => .int
  | 9 => .int
  | 10 => .long
  | 11 => (.array .int)
  | 12 => (.array .int)
  | 13 => (.array .int)
  | 14 => (.array .int)
  | 15 => (.array .int)
  | 16 => (.array .int)
  | 17 => (.array .int)
  | 18 => (.array .int)
  | 19 => (.array .int)
  | 20 => (.array .int)
  | 21 => (.array .int)
  | 22 => (.array .int)
  | 23 => (.array .long)
  | 24 => (.array .long)
  | 25 => (.array .int)
  | 26 => (.array .int)
  | 27 => (.array .int)
  | 28 => (.array .int)
  | 29 => (.array .int)
  | 30 => .int
  | 31 => .int
  | 32 => .int
  | 33 => .int
  | 34 => .int
  | 35 => .int
  | 36 => .int
  | 37 => .int
  | 38 => .int
  | 39 => .int
  | 40 => (.array .int)
  | 41 => (.array .int)
  | 42 => .int
  | 43 => (.array .int)
  | 44 => .int
  | 45 => .int
  | 46 => (.array .int)
  | 47 => .int
  | 48 => (.array .int)
  | 49 => (.array .int)
  | 50 => (.array .int)
  | 51 => (.array .int)
  | 52 => (.array .int)
  | 53 => (.array .int)
  | 54 => (.array .int)
  | 55 => (.array .int)
  | 56 => .int
  | 57 => .int
  | 58 => (.array .int)
  | _ => (.array .boolean)
noncomputable def zx_cl : List vw_C := [("DeckChairs$Duel", zx_T0, 4), ("DeckChairs$Formula", zx_T1, 7), ("DeckChairs$Guesses", zx_T2, 11), ("DeckChairs$Hinge", zx_T3, 2), ("DeckChairs$Parser", zx_T4, 6), ("DeckChairs$Past", zx_T5, 3), ("DeckChairs$Scene", zx_T6, 9), ("DeckChairs$Seater", zx_T7, 11), ("DeckChairs$Shelf", zx_T8, 1), ("DeckChairs$Tokens", zx_T9, 8), ("DeckChairs$Told", zx_T10, 13), ("DeckChairs", zx_T11, 16), ("DeckChairsModel", zx_T12, 60)]
noncomputable def zx_dfl : List (List zx_V) := [[.inl 0, .inl 0, .inr (.inl none), .inr (.inl none)], [.inl 0, .inl 0, .inl 0, .inr (.inl none), .inr (.inl none), .inr (.inl none), .inr (.inl none)], [.inl 0, .inl 0, .inl 0, .inl 0, .inr (.inl none), .inr (.inl none), .inr (.inl none), .inr (.inl none), .inr (.inl none), .inr (.inl none), .inr (.inl none)], [.inl 0, .inr (.inl none)], [.inl 0, .inl 0, .inr (.inl none), .inl 0, .inl 0, .inr (.inl none)], [.inl 0, .inl 0, .inr (.inl none)], [.inr (.inl none), .inr (.inl none), .inr (.inl none), .inr (.inl none), .inr (.inl none), .inr (.inl none), .inr (.inl none), .inl 0, .inl 0], [.inr (.inl none), .inr (.inl none), .inr (.inl none), .inr (.inl none), .inr (.inl none), .inl 0, .inl 0, .inl 0, .inl 0, .inl 0, .inl 0], [.inr (.inl none)], [.inr (.inl none), .inr (.inl none), .inr (.inl none), .inr (.inl none), .inl 0, .inr (.inl none), .inl 0, .inl 0], [.inl 0, .inl 0, .inl 0, .inl 0, .inl 0, .inl 0, .inr (.inl none), .inr (.inl none), .inr (.inl none), .inr (.inl none), .inr (.inl none), .inr (.inl none), .inr (.inl none)], [.inr (.inl none), .inl 0, .inr (.inl none), .inr (.inl none), .inr (.inl none), .inr (.inl none), .inr (.inl none), .inr (.inl none), .inr (.inl none), .inr (.inl none), .inr (.inl none), .inr (.inl none), .inr (.inl none), .inr (.inl none), .inr (.inl none), .inl 0], [.inr (.inl none), .inr (.inl none), .inl 0, .inl 0, .inl 0, .inl 0, .inl 0, .inl 0, .inl 0, .inl 0, .inr (.inr (.inl 0)), .inr (.inl none), .inr (.inl none), .inr (.inl none), .inr (.inl none), .inr (.inl none), .inr (.inl none), .inr (.inl none), .inr (.inl none), .inr (.inl none), .inr (.inl none), .inr (.inl none), .inr (.inl none), .inr (.inl none), .inr (.inl none), .inr (.inl none), .inr (.inl none), .inr (.inl none), .inr (.inl none), .inr (.inl none), .inl 0, .inl 0, .inl 0, .inl 0, .inl 0, .inl 0, .inl 0, .inl 0, .inl 0, .inl 0, .inr (.inl none), .inr (.inl none), .inl 0, .inr (.inl none), .inl 0, .inl 0, .inr (.inl none), .inl 0, .inr (.inl none), .inr (.inl none), .inr (.inl none), .inr (.inl none), .inr (.inl none), .inr (.inl none), .inr (.inl none), .inr (.inl none), .inl 0, .inl 0, .inr (.inl none), .inr (.inl none)]]
noncomputable def zx_xa : List (Nat × Nat × List zx_V) := [(0, 0, [.inl 1, .inl 1, .inl 0, .inl 0, .inl 3, .inl 1, .inl 3, .inl 0, .inl 2, .inl 1, .inl 1, .inl 1]), (1, 0, [.inr (.inr (.inr (.inl 0))), .inr (.inr (.inr (.inl 1))), .inr (.inr (.inr (.inl 2))), .inr (.inr (.inr (.inl 3))), .inr (.inr (.inr (.inl 4))), .inr (.inr (.inr (.inl 5)))]), (4, 1, [.inl 99, .inl 104, .inl 97, .inl 105, .inl 114, .inl 32, .inl 32, .inl 32, .inl 115, .inl 105, .inl 116, .inl 116, .inl 101, .inl 114, .inl 32, .inl 32, .inl 104, .inl 97, .inl 100, .inl 32, .inl 32, .inl 32, .inl 32, .inl 32, .inl 103, .inl 117, .inl 115, .inl 116, .inl 32, .inl 32, .inl 32, .inl 32, .inl 100, .inl 114, .inl 97, .inl 119, .inl 32, .inl 32, .inl 32, .inl 32, .inl 115, .inl 104, .inl 117, .inl 116, .inl 32, .inl 32, .inl 32, .inl 32, .inl 112, .inl 117, .inl 114, .inl 115, .inl 101, .inl 32, .inl 32, .inl 32, .inl 111, .inl 114, .inl 32, .inl 32, .inl 32, .inl 32, .inl 32, .inl 32]), (5, 1, [.inl 97, .inl 110, .inl 100, .inl 32, .inl 32, .inl 32, .inl 32, .inl 32, .inl 110, .inl 111, .inl 116, .inl 32, .inl 32, .inl 32, .inl 32, .inl 32, .inl 115, .inl 116, .inl 114, .inl 105, .inl 112, .inl 101, .inl 115, .inl 32, .inl 108, .inl 105, .inl 107, .inl 101, .inl 115, .inl 32, .inl 32, .inl 32, .inl 97, .inl 108, .inl 111, .inl 110, .inl 101, .inl 32, .inl 32, .inl 32, .inl 115, .inl 97, .inl 116, .inl 32, .inl 32, .inl 32, .inl 32, .inl 32, .inl 115, .inl 97, .inl 110, .inl 100, .inl 32, .inl 32, .inl 32, .inl 32, .inl 104, .inl 111, .inl 117, .inl 114, .inl 32, .inl 32, .inl 32, .inl 32])]
noncomputable def zx_xv : List (Nat × zx_V) := [(2, .inr (.inr (.inr (.inr (.inl 4))))), (3, .inr (.inr (.inr (.inr (.inl 5)))))]
noncomputable def zx_xc : List (Nat × zx_V) := [(2, .inl 0), (3, .inl 0)]
noncomputable def zx_c0_0 : List zx_RI := [(.new 7, 3, 3, [11, 16, 137, 138, 116]), (.nop, 0, 0, []), (.nop, 0, 0, []), (.dup, 1, 4, []), (.invokespecial 9, 3, 7, [2, 2, 11, 1, 72, 11323, 139, 140, 0, 116, 1, 0]), (.nop, 0, 0, []), (.nop, 0, 0, []), (.astore_n 1, 1, 8, [1]), (.new 10, 3, 11, [12, 60, 1359, 1360, 134]), (.nop, 0, 0, []), (.nop, 0, 0, []), (.dup, 1, 12, []), (.invokespecial 12, 3, 15, [2, 2, 12, 110, 35, 7784, 1361, 1362, 0, 134, 1, 0]), (.nop, 0, 0, []), (.nop, 0, 0, []), (.astore_n 2, 1, 16, [2]), (.iconst 0, 1, 17, [0]), (.istore_n 3, 1, 18, [3]), (.iload_n 3, 1, 19, [3]), (.aload_n 0, 1, 20, [0]), (.arraylength, 1, 21, []), (.bipush 6, 2, 23, [6]), (.nop, 0, 0, []), (.isub, 1, 24, []), (.if_icmp .gt 1439, 3, 27, [1463]), (.nop, 0, 0, []), (.nop, 0, 0, []), (.aload_n 0, 1, 28, [0]), (.iload_n 3, 1, 29, [3]), (.iaload, 1, 30, []), (.bipush 63, 2, 32, [63]), (.nop, 0, 0, []), (.iand, 1, 33, []), (.tableswitch 1424 0 48 #[211, 274, 297, 310, 333, 366, 399, 432, 445, 478, 501, 534, 567, 600, 613, 626, 659, 682, 705, 718, 741, 764, 787, 800, 823, 856, 889, 922, 955, 968, 981, 994, 1007, 1020, 1033, 1046, 1059, 1082, 1105, 1138, 1161, 1220, 1243, 1266, 1289, 1322, 1355, 1378, 1401], 211, 244, [1457, 244, 307, 330, 343, 366, 399, 432, 465, 478, 511, 534, 567, 600, 633, 646, 659, 692, 715, 738, 751, 774, 797, 820, 833, 856, 889, 922, 955, 988, 1001, 1014, 1027, 1040, 1053, 1066, 1079, 1092, 1115, 1138, 1171, 1194, 1253, 1276, 1299, 1322, 1355, 1388, 1411, 1434]), (.nop, 0, 0, []), (.nop, 0, 0, []), (.nop, 0, 0, []), (.nop, 0, 0, []), (.nop, 0, 0, []), (.nop, 0, 0, []), (.nop, 0, 0, []), (.nop, 0, 0, []), (.nop, 0, 0, []), (.nop, 0, 0, []), (.nop, 0, 0, []), (.nop, 0, 0, []), (.nop, 0, 0, []), (.nop, 0, 0, []), (.nop, 0, 0, []), (.nop, 0, 0, []), (.nop, 0, 0, []), (.nop, 0, 0, []), (.nop, 0, 0, []), (.nop, 0, 0, []), (.nop, 0, 0, []), (.nop, 0, 0, []), (.nop, 0, 0, []), (.nop, 0, 0, []), (.nop, 0, 0, []), (.nop, 0, 0, []), (.nop, 0, 0, []), (.nop, 0, 0, []), (.nop, 0, 0, []), (.nop, 0, 0, [])]
noncomputable def zx_c0_1 : List zx_RI := [(.nop, 0, 0, []), (.nop, 0, 0, []), (.nop, 0, 0, []), (.nop, 0, 0, []), (.nop, 0, 0, []), (.nop, 0, 0, []), (.nop, 0, 0, []), (.nop, 0, 0, []), (.nop, 0, 0, []), (.nop, 0, 0, []), (.nop, 0, 0, []), (.nop, 0, 0, []), (.nop, 0, 0, []), (.nop, 0, 0, []), (.nop, 0, 0, []), (.nop, 0, 0, []), (.nop, 0, 0, []), (.nop, 0, 0, []), (.nop, 0, 0, []), (.nop, 0, 0, []), (.nop, 0, 0, []), (.nop, 0, 0, []), (.nop, 0, 0, []), (.nop, 0, 0, []), (.nop, 0, 0, []), (.nop, 0, 0, []), (.nop, 0, 0, []), (.nop, 0, 0, []), (.nop, 0, 0, []), (.nop, 0, 0, []), (.nop, 0, 0, []), (.nop, 0, 0, []), (.nop, 0, 0, []), (.nop, 0, 0, []), (.nop, 0, 0, []), (.nop, 0, 0, []), (.nop, 0, 0, []), (.nop, 0, 0, []), (.nop, 0, 0, []), (.nop, 0, 0, []), (.nop, 0, 0, []), (.nop, 0, 0, []), (.nop, 0, 0, []), (.nop, 0, 0, []), (.nop, 0, 0, []), (.nop, 0, 0, []), (.nop, 0, 0, []), (.nop, 0, 0, []), (.nop, 0, 0, []), (.nop, 0, 0, []), (.nop, 0, 0, []), (.nop, 0, 0, []), (.nop, 0, 0, []), (.nop, 0, 0, []), (.nop, 0, 0, []), (.nop, 0, 0, []), (.nop, 0, 0, []), (.nop, 0, 0, []), (.nop, 0, 0, []), (.nop, 0, 0, []), (.nop, 0, 0, []), (.nop, 0, 0, []), (.nop, 0, 0, []), (.nop, 0, 0, [])]
noncomputable def zx_c0_2 : List zx_RI := [(.nop, 0, 0, []), (.nop, 0, 0, []), (.nop, 0, 0, []), (.nop, 0, 0, []), (.nop, 0, 0, []), (.nop, 0, 0, []), (.nop, 0, 0, []), (.nop, 0, 0, []), (.nop, 0, 0, []), (.nop, 0, 0, []), (.nop, 0, 0, []), (.nop, 0, 0, []), (.nop, 0, 0, []), (.nop, 0, 0, []), (.nop, 0, 0, []), (.nop, 0, 0, []), (.nop, 0, 0, []), (.nop, 0, 0, []), (.nop, 0, 0, []), (.nop, 0, 0, []), (.nop, 0, 0, []), (.nop, 0, 0, []), (.nop, 0, 0, []), (.nop, 0, 0, []), (.nop, 0, 0, []), (.nop, 0, 0, []), (.nop, 0, 0, []), (.nop, 0, 0, []), (.nop, 0, 0, []), (.nop, 0, 0, []), (.nop, 0, 0, []), (.nop, 0, 0, []), (.nop, 0, 0, []), (.nop, 0, 0, []), (.nop, 0, 0, []), (.nop, 0, 0, []), (.nop, 0, 0, []), (.nop, 0, 0, []), (.nop, 0, 0, []), (.nop, 0, 0, []), (.nop, 0, 0, []), (.nop, 0, 0, []), (.nop, 0, 0, []), (.nop, 0, 0, []), (.nop, 0, 0, []), (.nop, 0, 0, []), (.nop, 0, 0, []), (.nop, 0, 0, []), (.nop, 0, 0, []), (.nop, 0, 0, []), (.nop, 0, 0, []), (.nop, 0, 0, []), (.nop, 0, 0, []), (.nop, 0, 0, []), (.nop, 0, 0, []), (.nop, 0, 0, []), (.nop, 0, 0, []), (.nop, 0, 0, []), (.nop, 0, 0, []), (.nop, 0, 0, []), (.nop, 0, 0, []), (.nop, 0, 0, []), (.nop, 0, 0, []), (.nop, 0, 0, [])]
noncomputable def zx_c0_3 : List zx_RI := [(.nop, 0, 0, []), (.nop, 0, 0, []), (.nop, 0, 0, []), (.nop, 0, 0, []), (.nop, 0, 0, []), (.nop, 0, 0, []), (.nop, 0, 0, []), (.nop, 0, 0, []), (.nop, 0, 0, []), (.nop, 0, 0, []), (.nop, 0, 0, []), (.nop, 0, 0, []), (.nop, 0, 0, []), (.nop, 0, 0, []), (.nop, 0, 0, []), (.nop, 0, 0, []), (.nop, 0, 0, []), (.nop, 0, 0, []), (.nop, 0, 0, []), (.nop, 0, 0, []), (.nop, 0, 0, []), (.nop, 0, 0, []), (.nop, 0, 0, []), (.nop, 0, 0, []), (.nop, 0, 0, []), (.nop, 0, 0, []), (.nop, 0, 0, []), (.nop, 0, 0, []), (.nop, 0, 0, []), (.nop, 0, 0, []), (.nop, 0, 0, []), (.nop, 0, 0, []), (.nop, 0, 0, []), (.nop, 0, 0, []), (.nop, 0, 0, []), (.nop, 0, 0, []), (.nop, 0, 0, []), (.nop, 0, 0, []), (.nop, 0, 0, []), (.nop, 0, 0, []), (.nop, 0, 0, []), (.nop, 0, 0, []), (.nop, 0, 0, []), (.nop, 0, 0, []), (.nop, 0, 0, []), (.nop, 0, 0, []), (.nop, 0, 0, []), (.nop, 0, 0, []), (.nop, 0, 0, []), (.nop, 0, 0, []), (.nop, 0, 0, []), (.nop, 0, 0, []), (.aload_n 1, 1, 245, [1]), (.aload_n 0, 1, 246, [0]), (.iload_n 3, 1, 247, [3]), (.iconst 1, 1, 248, [1]), (.iadd, 1, 249, []), (.iaload, 1, 250, []), (.aload_n 0, 1, 251, [0]), (.iload_n 3, 1, 252, [3]), (.iconst 2, 1, 253, [2]), (.iadd, 1, 254, []), (.iaload, 1, 255, []), (.aload_n 0, 1, 256, [0])]
noncomputable def zx_c0_4 : List zx_RI := [(.iload_n 3, 1, 257, [3]), (.iconst 3, 1, 258, [3]), (.iadd, 1, 259, []), (.iaload, 1, 260, []), (.aload_n 0, 1, 261, [0]), (.iload_n 3, 1, 262, [3]), (.iconst 4, 1, 263, [4]), (.iadd, 1, 264, []), (.iaload, 1, 265, []), (.aload_n 0, 1, 266, [0]), (.iload_n 3, 1, 267, [3]), (.iconst 5, 1, 268, [5]), (.iadd, 1, 269, []), (.iaload, 1, 270, []), (.invokevirtual 13, 3, 273, [2, 2, 11, 16, 0, 0, 679, 680, 681, 116, 6, 5, 4, 3, 2, 1, 0]), (.nop, 0, 0, []), (.nop, 0, 0, []), (.aload_n 2, 1, 274, [2]), (.aload_n 0, 1, 275, [0]), (.iload_n 3, 1, 276, [3]), (.iconst 1, 1, 277, [1]), (.iadd, 1, 278, []), (.iaload, 1, 279, []), (.aload_n 0, 1, 280, [0]), (.iload_n 3, 1, 281, [3]), (.iconst 2, 1, 282, [2]), (.iadd, 1, 283, []), (.iaload, 1, 284, []), (.aload_n 0, 1, 285, [0]), (.iload_n 3, 1, 286, [3]), (.iconst 3, 1, 287, [3]), (.iadd, 1, 288, []), (.iaload, 1, 289, []), (.aload_n 0, 1, 290, [0]), (.iload_n 3, 1, 291, [3]), (.iconst 4, 1, 292, [4]), (.iadd, 1, 293, []), (.iaload, 1, 294, []), (.aload_n 0, 1, 295, [0]), (.iload_n 3, 1, 296, [3]), (.iconst 5, 1, 297, [5]), (.iadd, 1, 298, []), (.iaload, 1, 299, []), (.invokevirtual 17, 3, 302, [2, 2, 12, 129, 0, 0, 2057, 2058, 2059, 134, 8, 5, 4, 3, 2, 1, 0]), (.nop, 0, 0, []), (.nop, 0, 0, []), (.if_icmp .eq 1155, 3, 305, [1457]), (.nop, 0, 0, []), (.nop, 0, 0, []), (.nop, 0, 0, []), (.nop, 0, 0, []), (.aload_n 1, 1, 308, [1]), (.aload_n 0, 1, 309, [0]), (.iload_n 3, 1, 310, [3]), (.iconst 1, 1, 311, [1]), (.iadd, 1, 312, []), (.iaload, 1, 313, []), (.invokevirtual 18, 3, 316, [2, 2, 11, 13, 0, 0, 687, 688, 689, 116, 2, 1, 0]), (.nop, 0, 0, []), (.nop, 0, 0, []), (.aload_n 2, 1, 317, [2]), (.aload_n 0, 1, 318, [0]), (.iload_n 3, 1, 319, [3]), (.iconst 1, 1, 320, [1])]
noncomputable def zx_c0_5 : List zx_RI := [(.iadd, 1, 321, []), (.iaload, 1, 322, []), (.invokevirtual 22, 3, 325, [2, 2, 12, 126, 0, 0, 2061, 2062, 2063, 134, 2, 1, 0]), (.nop, 0, 0, []), (.nop, 0, 0, []), (.if_icmp .eq 1132, 3, 328, [1457]), (.nop, 0, 0, []), (.nop, 0, 0, []), (.nop, 0, 0, []), (.nop, 0, 0, []), (.aload_n 1, 1, 331, [1]), (.invokevirtual 23, 3, 334, [2, 2, 11, 5, 0, 0, 691, 692, 693, 116, 2, 0]), (.nop, 0, 0, []), (.nop, 0, 0, []), (.aload_n 2, 1, 335, [2]), (.invokevirtual 27, 3, 338, [2, 2, 12, 114, 0, 0, 1566, 1567, 1568, 134, 2, 0]), (.nop, 0, 0, []), (.nop, 0, 0, []), (.if_icmp .eq 1119, 3, 341, [1457]), (.nop, 0, 0, []), (.nop, 0, 0, []), (.nop, 0, 0, []), (.nop, 0, 0, []), (.aload_n 1, 1, 344, [1]), (.aload_n 0, 1, 345, [0]), (.iload_n 3, 1, 346, [3]), (.iconst 1, 1, 347, [1]), (.iadd, 1, 348, []), (.iaload, 1, 349, []), (.invokevirtual 28, 3, 352, [2, 2, 11, 15, 0, 0, 911, 912, 913, 116, 2, 1, 0]), (.nop, 0, 0, []), (.nop, 0, 0, []), (.aload_n 2, 1, 353, [2]), (.aload_n 0, 1, 354, [0]), (.iload_n 3, 1, 355, [3]), (.iconst 1, 1, 356, [1]), (.iadd, 1, 357, []), (.iaload, 1, 358, []), (.invokevirtual 31, 3, 361, [2, 2, 12, 128, 0, 0, 1705, 1706, 1707, 134, 2, 1, 0]), (.nop, 0, 0, []), (.nop, 0, 0, []), (.if_icmp .eq 1096, 3, 364, [1457]), (.nop, 0, 0, []), (.nop, 0, 0, []), (.nop, 0, 0, []), (.nop, 0, 0, []), (.aload_n 1, 1, 367, [1]), (.aload_n 0, 1, 368, [0]), (.iload_n 3, 1, 369, [3]), (.iconst 1, 1, 370, [1]), (.iadd, 1, 371, []), (.iaload, 1, 372, []), (.aload_n 0, 1, 373, [0]), (.iload_n 3, 1, 374, [3]), (.iconst 2, 1, 375, [2]), (.iadd, 1, 376, []), (.iaload, 1, 377, []), (.invokevirtual 32, 3, 380, [2, 2, 11, 9, 0, 0, 915, 916, 917, 116, 3, 2, 1, 0]), (.nop, 0, 0, []), (.nop, 0, 0, []), (.aload_n 2, 1, 381, [2]), (.aload_n 0, 1, 382, [0]), (.iload_n 3, 1, 383, [3]), (.iconst 1, 1, 384, [1])]
noncomputable def zx_c0_6 : List zx_RI := [(.iadd, 1, 385, []), (.iaload, 1, 386, []), (.aload_n 0, 1, 387, [0]), (.iload_n 3, 1, 388, [3]), (.iconst 2, 1, 389, [2]), (.iadd, 1, 390, []), (.iaload, 1, 391, []), (.invokevirtual 36, 3, 394, [2, 2, 12, 119, 0, 0, 1709, 1710, 1711, 134, 3, 2, 1, 0]), (.nop, 0, 0, []), (.nop, 0, 0, []), (.if_icmp .eq 1063, 3, 397, [1457]), (.nop, 0, 0, []), (.nop, 0, 0, []), (.nop, 0, 0, []), (.nop, 0, 0, []), (.aload_n 1, 1, 400, [1]), (.aload_n 0, 1, 401, [0]), (.iload_n 3, 1, 402, [3]), (.iconst 1, 1, 403, [1]), (.iadd, 1, 404, []), (.iaload, 1, 405, []), (.aload_n 0, 1, 406, [0]), (.iload_n 3, 1, 407, [3]), (.iconst 2, 1, 408, [2]), (.iadd, 1, 409, []), (.iaload, 1, 410, []), (.invokevirtual 37, 3, 413, [2, 2, 11, 46, 0, 0, 932, 933, 934, 116, 3, 2, 1, 0]), (.nop, 0, 0, []), (.nop, 0, 0, []), (.aload_n 2, 1, 414, [2]), (.aload_n 0, 1, 415, [0]), (.iload_n 3, 1, 416, [3]), (.iconst 1, 1, 417, [1]), (.iadd, 1, 418, []), (.iaload, 1, 419, []), (.aload_n 0, 1, 420, [0]), (.iload_n 3, 1, 421, [3]), (.iconst 2, 1, 422, [2]), (.iadd, 1, 423, []), (.iaload, 1, 424, []), (.invokevirtual 40, 3, 427, [2, 2, 12, 174, 0, 0, 1732, 1733, 1734, 134, 3, 2, 1, 0]), (.nop, 0, 0, []), (.nop, 0, 0, []), (.if_icmp .eq 1030, 3, 430, [1457]), (.nop, 0, 0, []), (.nop, 0, 0, []), (.nop, 0, 0, []), (.nop, 0, 0, []), (.aload_n 1, 1, 433, [1]), (.aload_n 0, 1, 434, [0]), (.iload_n 3, 1, 435, [3]), (.iconst 1, 1, 436, [1]), (.iadd, 1, 437, []), (.iaload, 1, 438, []), (.aload_n 0, 1, 439, [0]), (.iload_n 3, 1, 440, [3]), (.iconst 2, 1, 441, [2]), (.iadd, 1, 442, []), (.iaload, 1, 443, []), (.invokevirtual 41, 3, 446, [2, 2, 11, 21, 0, 0, 940, 941, 942, 116, 3, 2, 1, 0]), (.nop, 0, 0, []), (.nop, 0, 0, []), (.aload_n 2, 1, 447, [2]), (.aload_n 0, 1, 448, [0])]
noncomputable def zx_c0_7 : List zx_RI := [(.iload_n 3, 1, 449, [3]), (.iconst 1, 1, 450, [1]), (.iadd, 1, 451, []), (.iaload, 1, 452, []), (.aload_n 0, 1, 453, [0]), (.iload_n 3, 1, 454, [3]), (.iconst 2, 1, 455, [2]), (.iadd, 1, 456, []), (.iaload, 1, 457, []), (.invokevirtual 44, 3, 460, [2, 2, 12, 136, 0, 0, 1744, 1745, 1746, 134, 3, 2, 1, 0]), (.nop, 0, 0, []), (.nop, 0, 0, []), (.if_icmp .eq 997, 3, 463, [1457]), (.nop, 0, 0, []), (.nop, 0, 0, []), (.nop, 0, 0, []), (.nop, 0, 0, []), (.aload_n 1, 1, 466, [1]), (.invokevirtual 45, 3, 469, [2, 2, 11, 22, 0, 0, 964, 965, 966, 116, 2, 0]), (.nop, 0, 0, []), (.nop, 0, 0, []), (.aload_n 2, 1, 470, [2]), (.invokevirtual 48, 3, 473, [2, 2, 12, 139, 0, 0, 1853, 1854, 1855, 134, 1, 0]), (.nop, 0, 0, []), (.nop, 0, 0, []), (.if_icmp .eq 984, 3, 476, [1457]), (.nop, 0, 0, []), (.nop, 0, 0, []), (.nop, 0, 0, []), (.nop, 0, 0, []), (.aload_n 1, 1, 479, [1]), (.aload_n 0, 1, 480, [0]), (.iload_n 3, 1, 481, [3]), (.iconst 1, 1, 482, [1]), (.iadd, 1, 483, []), (.iaload, 1, 484, []), (.aload_n 0, 1, 485, [0]), (.iload_n 3, 1, 486, [3]), (.iconst 2, 1, 487, [2]), (.iadd, 1, 488, []), (.iaload, 1, 489, []), (.invokevirtual 49, 3, 492, [2, 2, 11, 45, 0, 0, 1007, 1008, 1009, 116, 3, 2, 1, 0]), (.nop, 0, 0, []), (.nop, 0, 0, []), (.aload_n 2, 1, 493, [2]), (.aload_n 0, 1, 494, [0]), (.iload_n 3, 1, 495, [3]), (.iconst 1, 1, 496, [1]), (.iadd, 1, 497, []), (.iaload, 1, 498, []), (.aload_n 0, 1, 499, [0]), (.iload_n 3, 1, 500, [3]), (.iconst 2, 1, 501, [2]), (.iadd, 1, 502, []), (.iaload, 1, 503, []), (.invokevirtual 52, 3, 506, [2, 2, 12, 173, 0, 0, 1865, 1866, 1867, 134, 3, 2, 1, 0]), (.nop, 0, 0, []), (.nop, 0, 0, []), (.if_icmp .eq 951, 3, 509, [1457]), (.nop, 0, 0, []), (.nop, 0, 0, []), (.nop, 0, 0, []), (.nop, 0, 0, []), (.aload_n 1, 1, 512, [1])]
noncomputable def zx_c0_8 : List zx_RI := [(.aload_n 0, 1, 513, [0]), (.iload_n 3, 1, 514, [3]), (.iconst 1, 1, 515, [1]), (.iadd, 1, 516, []), (.iaload, 1, 517, []), (.invokevirtual 53, 3, 520, [2, 2, 11, 40, 0, 0, 1024, 1025, 1026, 116, 3, 1, 0]), (.nop, 0, 0, []), (.nop, 0, 0, []), (.aload_n 2, 1, 521, [2]), (.aload_n 0, 1, 522, [0]), (.iload_n 3, 1, 523, [3]), (.iconst 1, 1, 524, [1]), (.iadd, 1, 525, []), (.iaload, 1, 526, []), (.invokevirtual 56, 3, 529, [2, 2, 12, 166, 0, 0, 1869, 1870, 1871, 134, 3, 1, 0]), (.nop, 0, 0, []), (.nop, 0, 0, []), (.if_icmp .eq 928, 3, 532, [1457]), (.nop, 0, 0, []), (.nop, 0, 0, []), (.nop, 0, 0, []), (.nop, 0, 0, []), (.aload_n 1, 1, 535, [1]), (.aload_n 0, 1, 536, [0]), (.iload_n 3, 1, 537, [3]), (.iconst 1, 1, 538, [1]), (.iadd, 1, 539, []), (.iaload, 1, 540, []), (.aload_n 0, 1, 541, [0]), (.iload_n 3, 1, 542, [3]), (.iconst 2, 1, 543, [2]), (.iadd, 1, 544, []), (.iaload, 1, 545, []), (.invokevirtual 57, 3, 548, [2, 2, 11, 10, 0, 0, 1029, 1030, 1031, 116, 4, 2, 1, 0]), (.nop, 0, 0, []), (.nop, 0, 0, []), (.aload_n 2, 1, 549, [2]), (.aload_n 0, 1, 550, [0]), (.iload_n 3, 1, 551, [3]), (.iconst 1, 1, 552, [1]), (.iadd, 1, 553, []), (.iaload, 1, 554, []), (.aload_n 0, 1, 555, [0]), (.iload_n 3, 1, 556, [3]), (.iconst 2, 1, 557, [2]), (.iadd, 1, 558, []), (.iaload, 1, 559, []), (.invokevirtual 60, 3, 562, [2, 2, 12, 121, 0, 0, 1873, 1874, 1875, 134, 3, 2, 1, 0]), (.nop, 0, 0, []), (.nop, 0, 0, []), (.if_icmp .eq 895, 3, 565, [1457]), (.nop, 0, 0, []), (.nop, 0, 0, []), (.nop, 0, 0, []), (.nop, 0, 0, []), (.aload_n 1, 1, 568, [1]), (.aload_n 0, 1, 569, [0]), (.iload_n 3, 1, 570, [3]), (.iconst 1, 1, 571, [1]), (.iadd, 1, 572, []), (.iaload, 1, 573, []), (.aload_n 0, 1, 574, [0]), (.iload_n 3, 1, 575, [3]), (.iconst 2, 1, 576, [2])]
noncomputable def zx_c0_9 : List zx_RI := [(.iadd, 1, 577, []), (.iaload, 1, 578, []), (.invokevirtual 61, 3, 581, [2, 2, 11, 31, 0, 0, 1037, 1038, 1039, 116, 3, 2, 1, 0]), (.nop, 0, 0, []), (.nop, 0, 0, []), (.aload_n 2, 1, 582, [2]), (.aload_n 0, 1, 583, [0]), (.iload_n 3, 1, 584, [3]), (.iconst 1, 1, 585, [1]), (.iadd, 1, 586, []), (.iaload, 1, 587, []), (.aload_n 0, 1, 588, [0]), (.iload_n 3, 1, 589, [3]), (.iconst 2, 1, 590, [2]), (.iadd, 1, 591, []), (.iaload, 1, 592, []), (.invokevirtual 64, 3, 595, [2, 2, 12, 154, 0, 0, 1881, 1882, 1883, 134, 3, 2, 1, 0]), (.nop, 0, 0, []), (.nop, 0, 0, []), (.if_icmp .eq 862, 3, 598, [1457]), (.nop, 0, 0, []), (.nop, 0, 0, []), (.nop, 0, 0, []), (.nop, 0, 0, []), (.aload_n 1, 1, 601, [1]), (.aload_n 0, 1, 602, [0]), (.iload_n 3, 1, 603, [3]), (.iconst 1, 1, 604, [1]), (.iadd, 1, 605, []), (.iaload, 1, 606, []), (.aload_n 0, 1, 607, [0]), (.iload_n 3, 1, 608, [3]), (.iconst 2, 1, 609, [2]), (.iadd, 1, 610, []), (.iaload, 1, 611, []), (.invokevirtual 65, 3, 614, [2, 2, 11, 17, 0, 0, 1044, 1045, 1046, 116, 3, 2, 1, 0]), (.nop, 0, 0, []), (.nop, 0, 0, []), (.aload_n 2, 1, 615, [2]), (.aload_n 0, 1, 616, [0]), (.iload_n 3, 1, 617, [3]), (.iconst 1, 1, 618, [1]), (.iadd, 1, 619, []), (.iaload, 1, 620, []), (.aload_n 0, 1, 621, [0]), (.iload_n 3, 1, 622, [3]), (.iconst 2, 1, 623, [2]), (.iadd, 1, 624, []), (.iaload, 1, 625, []), (.invokevirtual 68, 3, 628, [2, 2, 12, 130, 0, 0, 1888, 1889, 1890, 134, 3, 2, 1, 0]), (.nop, 0, 0, []), (.nop, 0, 0, []), (.if_icmp .eq 829, 3, 631, [1457]), (.nop, 0, 0, []), (.nop, 0, 0, []), (.nop, 0, 0, []), (.nop, 0, 0, []), (.aload_n 1, 1, 634, [1]), (.invokevirtual 69, 3, 637, [2, 2, 11, 54, 0, 0, 1049, 1050, 1051, 116, 1, 0]), (.nop, 0, 0, []), (.nop, 0, 0, []), (.aload_n 2, 1, 638, [2]), (.invokevirtual 73, 3, 641, [2, 2, 12, 184, 0, 0, 1892, 1893, 1894, 134, 1, 0]), (.nop, 0, 0, [])]
noncomputable def zx_c0_10 : List zx_RI := [(.nop, 0, 0, []), (.if_icmp .eq 816, 3, 644, [1457]), (.nop, 0, 0, []), (.nop, 0, 0, []), (.nop, 0, 0, []), (.nop, 0, 0, []), (.aload_n 1, 1, 647, [1]), (.invokevirtual 74, 3, 650, [2, 2, 11, 37, 0, 0, 1065, 1066, 1067, 116, 1, 0]), (.nop, 0, 0, []), (.nop, 0, 0, []), (.aload_n 2, 1, 651, [2]), (.invokevirtual 77, 3, 654, [2, 2, 12, 162, 0, 0, 1900, 1901, 1902, 134, 1, 0]), (.nop, 0, 0, []), (.nop, 0, 0, []), (.if_icmp .eq 803, 3, 657, [1457]), (.nop, 0, 0, []), (.nop, 0, 0, []), (.nop, 0, 0, []), (.nop, 0, 0, []), (.aload_n 1, 1, 660, [1]), (.aload_n 0, 1, 661, [0]), (.iload_n 3, 1, 662, [3]), (.iconst 1, 1, 663, [1]), (.iadd, 1, 664, []), (.iaload, 1, 665, []), (.aload_n 0, 1, 666, [0]), (.iload_n 3, 1, 667, [3]), (.iconst 2, 1, 668, [2]), (.iadd, 1, 669, []), (.iaload, 1, 670, []), (.invokevirtual 78, 3, 673, [2, 2, 11, 57, 0, 0, 1073, 1074, 1075, 116, 3, 2, 1, 0]), (.nop, 0, 0, []), (.nop, 0, 0, []), (.aload_n 2, 1, 674, [2]), (.aload_n 0, 1, 675, [0]), (.iload_n 3, 1, 676, [3]), (.iconst 1, 1, 677, [1]), (.iadd, 1, 678, []), (.iaload, 1, 679, []), (.aload_n 0, 1, 680, [0]), (.iload_n 3, 1, 681, [3]), (.iconst 2, 1, 682, [2]), (.iadd, 1, 683, []), (.iaload, 1, 684, []), (.invokevirtual 81, 3, 687, [2, 2, 12, 187, 0, 0, 1904, 1905, 1906, 134, 5, 2, 1, 0]), (.nop, 0, 0, []), (.nop, 0, 0, []), (.if_icmp .eq 770, 3, 690, [1457]), (.nop, 0, 0, []), (.nop, 0, 0, []), (.nop, 0, 0, []), (.nop, 0, 0, []), (.aload_n 1, 1, 693, [1]), (.aload_n 0, 1, 694, [0]), (.iload_n 3, 1, 695, [3]), (.iconst 1, 1, 696, [1]), (.iadd, 1, 697, []), (.iaload, 1, 698, []), (.invokevirtual 82, 3, 701, [2, 2, 11, 47, 0, 0, 1085, 1086, 1087, 116, 2, 1, 0]), (.nop, 0, 0, []), (.nop, 0, 0, []), (.aload_n 2, 1, 702, [2]), (.aload_n 0, 1, 703, [0]), (.iload_n 3, 1, 704, [3])]
noncomputable def zx_c0_11 : List zx_RI := [(.iconst 1, 1, 705, [1]), (.iadd, 1, 706, []), (.iaload, 1, 707, []), (.invokevirtual 85, 3, 710, [2, 2, 12, 175, 0, 0, 1908, 1909, 1910, 134, 4, 1, 0]), (.nop, 0, 0, []), (.nop, 0, 0, []), (.if_icmp .eq 747, 3, 713, [1457]), (.nop, 0, 0, []), (.nop, 0, 0, []), (.nop, 0, 0, []), (.nop, 0, 0, []), (.aload_n 1, 1, 716, [1]), (.aload_n 0, 1, 717, [0]), (.iload_n 3, 1, 718, [3]), (.iconst 1, 1, 719, [1]), (.iadd, 1, 720, []), (.iaload, 1, 721, []), (.invokevirtual 86, 3, 724, [2, 2, 11, 35, 0, 0, 1090, 1091, 1092, 116, 3, 1, 0]), (.nop, 0, 0, []), (.nop, 0, 0, []), (.aload_n 2, 1, 725, [2]), (.aload_n 0, 1, 726, [0]), (.iload_n 3, 1, 727, [3]), (.iconst 1, 1, 728, [1]), (.iadd, 1, 729, []), (.iaload, 1, 730, []), (.invokevirtual 89, 3, 733, [2, 2, 12, 160, 0, 0, 1916, 1917, 1918, 134, 4, 1, 0]), (.nop, 0, 0, []), (.nop, 0, 0, []), (.if_icmp .eq 724, 3, 736, [1457]), (.nop, 0, 0, []), (.nop, 0, 0, []), (.nop, 0, 0, []), (.nop, 0, 0, []), (.aload_n 1, 1, 739, [1]), (.invokevirtual 90, 3, 742, [2, 2, 11, 43, 0, 0, 1094, 1095, 1096, 116, 2, 0]), (.nop, 0, 0, []), (.nop, 0, 0, []), (.aload_n 2, 1, 743, [2]), (.invokevirtual 93, 3, 746, [2, 2, 12, 169, 0, 0, 1924, 1925, 1926, 134, 2, 0]), (.nop, 0, 0, []), (.nop, 0, 0, []), (.if_icmp .eq 711, 3, 749, [1457]), (.nop, 0, 0, []), (.nop, 0, 0, []), (.nop, 0, 0, []), (.nop, 0, 0, []), (.aload_n 1, 1, 752, [1]), (.aload_n 0, 1, 753, [0]), (.iload_n 3, 1, 754, [3]), (.iconst 1, 1, 755, [1]), (.iadd, 1, 756, []), (.iaload, 1, 757, []), (.invokevirtual 94, 3, 760, [2, 2, 11, 52, 0, 0, 1138, 1139, 1140, 116, 3, 1, 0]), (.nop, 0, 0, []), (.nop, 0, 0, []), (.aload_n 2, 1, 761, [2]), (.aload_n 0, 1, 762, [0]), (.iload_n 3, 1, 763, [3]), (.iconst 1, 1, 764, [1]), (.iadd, 1, 765, []), (.iaload, 1, 766, []), (.invokevirtual 97, 3, 769, [2, 2, 12, 182, 0, 0, 1955, 1956, 1957, 134, 2, 1, 0]), (.nop, 0, 0, [])]
noncomputable def zx_c0_12 : List zx_RI := [(.nop, 0, 0, []), (.if_icmp .eq 688, 3, 772, [1457]), (.nop, 0, 0, []), (.nop, 0, 0, []), (.nop, 0, 0, []), (.nop, 0, 0, []), (.aload_n 1, 1, 775, [1]), (.aload_n 0, 1, 776, [0]), (.iload_n 3, 1, 777, [3]), (.iconst 1, 1, 778, [1]), (.iadd, 1, 779, []), (.iaload, 1, 780, []), (.invokevirtual 98, 3, 783, [2, 2, 11, 34, 0, 0, 1150, 1151, 1152, 116, 6, 1, 0]), (.nop, 0, 0, []), (.nop, 0, 0, []), (.aload_n 2, 1, 784, [2]), (.aload_n 0, 1, 785, [0]), (.iload_n 3, 1, 786, [3]), (.iconst 1, 1, 787, [1]), (.iadd, 1, 788, []), (.iaload, 1, 789, []), (.invokevirtual 101, 3, 792, [2, 2, 12, 159, 0, 0, 1971, 1972, 1973, 134, 5, 1, 0]), (.nop, 0, 0, []), (.nop, 0, 0, []), (.if_icmp .eq 665, 3, 795, [1457]), (.nop, 0, 0, []), (.nop, 0, 0, []), (.nop, 0, 0, []), (.nop, 0, 0, []), (.aload_n 1, 1, 798, [1]), (.aload_n 0, 1, 799, [0]), (.iload_n 3, 1, 800, [3]), (.iconst 1, 1, 801, [1]), (.iadd, 1, 802, []), (.iaload, 1, 803, []), (.invokevirtual 102, 3, 806, [2, 2, 11, 53, 0, 0, 1164, 1165, 1166, 116, 8, 1, 0]), (.nop, 0, 0, []), (.nop, 0, 0, []), (.aload_n 2, 1, 807, [2]), (.aload_n 0, 1, 808, [0]), (.iload_n 3, 1, 809, [3]), (.iconst 1, 1, 810, [1]), (.iadd, 1, 811, []), (.iaload, 1, 812, []), (.invokevirtual 105, 3, 815, [2, 2, 12, 183, 0, 0, 1959, 1960, 1961, 134, 8, 1, 0]), (.nop, 0, 0, []), (.nop, 0, 0, []), (.if_icmp .eq 642, 3, 818, [1457]), (.nop, 0, 0, []), (.nop, 0, 0, []), (.nop, 0, 0, []), (.nop, 0, 0, []), (.aload_n 1, 1, 821, [1]), (.invokevirtual 106, 3, 824, [2, 2, 11, 39, 0, 0, 1172, 1173, 1174, 116, 2, 0]), (.nop, 0, 0, []), (.nop, 0, 0, []), (.aload_n 2, 1, 825, [2]), (.invokevirtual 109, 3, 828, [2, 2, 12, 164, 0, 0, 1963, 1964, 1965, 134, 5, 0]), (.nop, 0, 0, []), (.nop, 0, 0, []), (.if_icmp .eq 629, 3, 831, [1457]), (.nop, 0, 0, []), (.nop, 0, 0, []), (.nop, 0, 0, [])]
noncomputable def zx_c0_13 : List zx_RI := [(.nop, 0, 0, []), (.aload_n 1, 1, 834, [1]), (.aload_n 0, 1, 835, [0]), (.iload_n 3, 1, 836, [3]), (.iconst 1, 1, 837, [1]), (.iadd, 1, 838, []), (.iaload, 1, 839, []), (.invokevirtual 110, 3, 842, [2, 2, 11, 14, 0, 0, 1185, 1186, 1187, 116, 5, 1, 0]), (.nop, 0, 0, []), (.nop, 0, 0, []), (.aload_n 2, 1, 843, [2]), (.aload_n 0, 1, 844, [0]), (.iload_n 3, 1, 845, [3]), (.iconst 1, 1, 846, [1]), (.iadd, 1, 847, []), (.iaload, 1, 848, []), (.invokevirtual 113, 3, 851, [2, 2, 12, 127, 0, 0, 1849, 1850, 1851, 134, 5, 1, 0]), (.nop, 0, 0, []), (.nop, 0, 0, []), (.if_icmp .eq 606, 3, 854, [1457]), (.nop, 0, 0, []), (.nop, 0, 0, []), (.nop, 0, 0, []), (.nop, 0, 0, []), (.aload_n 1, 1, 857, [1]), (.aload_n 0, 1, 858, [0]), (.iload_n 3, 1, 859, [3]), (.iconst 1, 1, 860, [1]), (.iadd, 1, 861, []), (.iaload, 1, 862, []), (.aload_n 0, 1, 863, [0]), (.iload_n 3, 1, 864, [3]), (.iconst 2, 1, 865, [2]), (.iadd, 1, 866, []), (.iaload, 1, 867, []), (.invokevirtual 114, 3, 870, [2, 2, 11, 42, 0, 0, 1189, 1190, 1191, 116, 6, 2, 1, 0]), (.nop, 0, 0, []), (.nop, 0, 0, []), (.aload_n 2, 1, 871, [2]), (.aload_n 0, 1, 872, [0]), (.iload_n 3, 1, 873, [3]), (.iconst 1, 1, 874, [1]), (.iadd, 1, 875, []), (.iaload, 1, 876, []), (.aload_n 0, 1, 877, [0]), (.iload_n 3, 1, 878, [3]), (.iconst 2, 1, 879, [2]), (.iadd, 1, 880, []), (.iaload, 1, 881, []), (.invokevirtual 117, 3, 884, [2, 2, 12, 168, 0, 0, 1805, 1806, 1807, 134, 6, 2, 1, 0]), (.nop, 0, 0, []), (.nop, 0, 0, []), (.if_icmp .eq 573, 3, 887, [1457]), (.nop, 0, 0, []), (.nop, 0, 0, []), (.nop, 0, 0, []), (.nop, 0, 0, []), (.aload_n 1, 1, 890, [1]), (.aload_n 0, 1, 891, [0]), (.iload_n 3, 1, 892, [3]), (.iconst 1, 1, 893, [1]), (.iadd, 1, 894, []), (.iaload, 1, 895, []), (.aload_n 0, 1, 896, [0])]
noncomputable def zx_c0_14 : List zx_RI := [(.iload_n 3, 1, 897, [3]), (.iconst 2, 1, 898, [2]), (.iadd, 1, 899, []), (.iaload, 1, 900, []), (.invokevirtual 118, 3, 903, [2, 2, 11, 41, 0, 0, 1194, 1195, 1196, 116, 4, 2, 1, 0]), (.nop, 0, 0, []), (.nop, 0, 0, []), (.aload_n 2, 1, 904, [2]), (.aload_n 0, 1, 905, [0]), (.iload_n 3, 1, 906, [3]), (.iconst 1, 1, 907, [1]), (.iadd, 1, 908, []), (.iaload, 1, 909, []), (.aload_n 0, 1, 910, [0]), (.iload_n 3, 1, 911, [3]), (.iconst 2, 1, 912, [2]), (.iadd, 1, 913, []), (.iaload, 1, 914, []), (.invokevirtual 121, 3, 917, [2, 2, 12, 167, 0, 0, 1984, 1985, 1986, 134, 7, 2, 1, 0]), (.nop, 0, 0, []), (.nop, 0, 0, []), (.if_icmp .eq 540, 3, 920, [1457]), (.nop, 0, 0, []), (.nop, 0, 0, []), (.nop, 0, 0, []), (.nop, 0, 0, []), (.aload_n 1, 1, 923, [1]), (.aload_n 0, 1, 924, [0]), (.iload_n 3, 1, 925, [3]), (.iconst 1, 1, 926, [1]), (.iadd, 1, 927, []), (.iaload, 1, 928, []), (.aload_n 0, 1, 929, [0]), (.iload_n 3, 1, 930, [3]), (.iconst 2, 1, 931, [2]), (.iadd, 1, 932, []), (.iaload, 1, 933, []), (.invokevirtual 122, 3, 936, [2, 2, 11, 7, 0, 0, 1215, 1216, 1217, 116, 7, 2, 1, 0]), (.nop, 0, 0, []), (.nop, 0, 0, []), (.aload_n 2, 1, 937, [2]), (.aload_n 0, 1, 938, [0]), (.iload_n 3, 1, 939, [3]), (.iconst 1, 1, 940, [1]), (.iadd, 1, 941, []), (.iaload, 1, 942, []), (.aload_n 0, 1, 943, [0]), (.iload_n 3, 1, 944, [3]), (.iconst 2, 1, 945, [2]), (.iadd, 1, 946, []), (.iaload, 1, 947, []), (.invokevirtual 125, 3, 950, [2, 2, 12, 115, 0, 0, 1781, 1782, 1783, 134, 6, 2, 1, 0]), (.nop, 0, 0, []), (.nop, 0, 0, []), (.if_icmp .eq 507, 3, 953, [1457]), (.nop, 0, 0, []), (.nop, 0, 0, []), (.nop, 0, 0, []), (.nop, 0, 0, []), (.aload_n 1, 1, 956, [1]), (.aload_n 0, 1, 957, [0]), (.iload_n 3, 1, 958, [3]), (.iconst 1, 1, 959, [1]), (.iadd, 1, 960, [])]
noncomputable def zx_c0_15 : List zx_RI := [(.iaload, 1, 961, []), (.aload_n 0, 1, 962, [0]), (.iload_n 3, 1, 963, [3]), (.iconst 2, 1, 964, [2]), (.iadd, 1, 965, []), (.iaload, 1, 966, []), (.invokevirtual 126, 3, 969, [2, 2, 11, 32, 0, 0, 1219, 1220, 1221, 116, 8, 2, 1, 0]), (.nop, 0, 0, []), (.nop, 0, 0, []), (.aload_n 2, 1, 970, [2]), (.aload_n 0, 1, 971, [0]), (.iload_n 3, 1, 972, [3]), (.iconst 1, 1, 973, [1]), (.iadd, 1, 974, []), (.iaload, 1, 975, []), (.aload_n 0, 1, 976, [0]), (.iload_n 3, 1, 977, [3]), (.iconst 2, 1, 978, [2]), (.iadd, 1, 979, []), (.iaload, 1, 980, []), (.invokevirtual 129, 3, 983, [2, 2, 12, 156, 0, 0, 1785, 1786, 1787, 134, 8, 2, 1, 0]), (.nop, 0, 0, []), (.nop, 0, 0, []), (.if_icmp .eq 474, 3, 986, [1457]), (.nop, 0, 0, []), (.nop, 0, 0, []), (.nop, 0, 0, []), (.nop, 0, 0, []), (.aload_n 1, 1, 989, [1]), (.invokevirtual 130, 3, 992, [2, 2, 11, 30, 0, 0, 1225, 1226, 1227, 116, 4, 0]), (.nop, 0, 0, []), (.nop, 0, 0, []), (.aload_n 2, 1, 993, [2]), (.invokevirtual 133, 3, 996, [2, 2, 12, 153, 0, 0, 1789, 1790, 1791, 134, 3, 0]), (.nop, 0, 0, []), (.nop, 0, 0, []), (.if_icmp .eq 461, 3, 999, [1457]), (.nop, 0, 0, []), (.nop, 0, 0, []), (.nop, 0, 0, []), (.nop, 0, 0, []), (.aload_n 1, 1, 1002, [1]), (.invokevirtual 134, 3, 1005, [2, 2, 11, 20, 0, 0, 1231, 1232, 1233, 116, 4, 0]), (.nop, 0, 0, []), (.nop, 0, 0, []), (.aload_n 2, 1, 1006, [2]), (.invokevirtual 137, 3, 1009, [2, 2, 12, 133, 0, 0, 1801, 1802, 1803, 134, 4, 0]), (.nop, 0, 0, []), (.nop, 0, 0, []), (.if_icmp .eq 448, 3, 1012, [1457]), (.nop, 0, 0, []), (.nop, 0, 0, []), (.nop, 0, 0, []), (.nop, 0, 0, []), (.aload_n 1, 1, 1015, [1]), (.invokevirtual 138, 3, 1018, [2, 2, 11, 8, 0, 0, 1235, 1236, 1237, 116, 3, 0]), (.nop, 0, 0, []), (.nop, 0, 0, []), (.aload_n 2, 1, 1019, [2]), (.invokevirtual 141, 3, 1022, [2, 2, 12, 118, 0, 0, 1809, 1810, 1811, 134, 3, 0]), (.nop, 0, 0, []), (.nop, 0, 0, []), (.if_icmp .eq 435, 3, 1025, [1457]), (.nop, 0, 0, [])]
noncomputable def zx_c0_16 : List zx_RI := [(.nop, 0, 0, []), (.nop, 0, 0, []), (.nop, 0, 0, []), (.aload_n 1, 1, 1028, [1]), (.invokevirtual 142, 3, 1031, [2, 2, 11, 51, 0, 0, 1239, 1240, 1241, 116, 1, 0]), (.nop, 0, 0, []), (.nop, 0, 0, []), (.aload_n 2, 1, 1032, [2]), (.invokevirtual 145, 3, 1035, [2, 2, 12, 181, 0, 0, 1817, 1818, 1819, 134, 3, 0]), (.nop, 0, 0, []), (.nop, 0, 0, []), (.if_icmp .eq 422, 3, 1038, [1457]), (.nop, 0, 0, []), (.nop, 0, 0, []), (.nop, 0, 0, []), (.nop, 0, 0, []), (.aload_n 1, 1, 1041, [1]), (.invokevirtual 146, 3, 1044, [2, 2, 11, 12, 0, 0, 1244, 1245, 1246, 116, 2, 0]), (.nop, 0, 0, []), (.nop, 0, 0, []), (.aload_n 2, 1, 1045, [2]), (.invokevirtual 149, 3, 1048, [2, 2, 12, 123, 0, 0, 1821, 1822, 1823, 134, 3, 0]), (.nop, 0, 0, []), (.nop, 0, 0, []), (.if_icmp .eq 409, 3, 1051, [1457]), (.nop, 0, 0, []), (.nop, 0, 0, []), (.nop, 0, 0, []), (.nop, 0, 0, []), (.aload_n 1, 1, 1054, [1]), (.invokevirtual 150, 3, 1057, [2, 2, 11, 56, 0, 0, 1254, 1255, 1256, 116, 3, 0]), (.nop, 0, 0, []), (.nop, 0, 0, []), (.aload_n 2, 1, 1058, [2]), (.invokevirtual 153, 3, 1061, [2, 2, 12, 186, 0, 0, 1825, 1826, 1827, 134, 3, 0]), (.nop, 0, 0, []), (.nop, 0, 0, []), (.if_icmp .eq 396, 3, 1064, [1457]), (.nop, 0, 0, []), (.nop, 0, 0, []), (.nop, 0, 0, []), (.nop, 0, 0, []), (.aload_n 1, 1, 1067, [1]), (.invokevirtual 154, 3, 1070, [2, 2, 11, 38, 0, 0, 1258, 1259, 1260, 116, 1, 0]), (.nop, 0, 0, []), (.nop, 0, 0, []), (.aload_n 2, 1, 1071, [2]), (.invokevirtual 157, 3, 1074, [2, 2, 12, 163, 0, 0, 1813, 1814, 1815, 134, 3, 0]), (.nop, 0, 0, []), (.nop, 0, 0, []), (.if_icmp .eq 383, 3, 1077, [1457]), (.nop, 0, 0, []), (.nop, 0, 0, []), (.nop, 0, 0, []), (.nop, 0, 0, []), (.aload_n 1, 1, 1080, [1]), (.invokevirtual 158, 3, 1083, [2, 2, 11, 49, 0, 0, 1262, 1263, 1264, 116, 3, 0]), (.nop, 0, 0, []), (.nop, 0, 0, []), (.aload_n 2, 1, 1084, [2]), (.invokevirtual 161, 3, 1087, [2, 2, 12, 180, 0, 0, 1829, 1830, 1831, 134, 3, 0]), (.nop, 0, 0, []), (.nop, 0, 0, []), (.if_icmp .eq 370, 3, 1090, [1457])]
noncomputable def zx_c0_17 : List zx_RI := [(.nop, 0, 0, []), (.nop, 0, 0, []), (.nop, 0, 0, []), (.nop, 0, 0, []), (.aload_n 1, 1, 1093, [1]), (.aload_n 0, 1, 1094, [0]), (.iload_n 3, 1, 1095, [3]), (.iconst 1, 1, 1096, [1]), (.iadd, 1, 1097, []), (.iaload, 1, 1098, []), (.invokevirtual 162, 3, 1101, [2, 2, 11, 27, 0, 0, 1266, 1267, 1268, 116, 5, 1, 0]), (.nop, 0, 0, []), (.nop, 0, 0, []), (.aload_n 2, 1, 1102, [2]), (.aload_n 0, 1, 1103, [0]), (.iload_n 3, 1, 1104, [3]), (.iconst 1, 1, 1105, [1]), (.iadd, 1, 1106, []), (.iaload, 1, 1107, []), (.invokevirtual 165, 3, 1110, [2, 2, 12, 148, 0, 0, 1833, 1834, 1835, 134, 3, 1, 0]), (.nop, 0, 0, []), (.nop, 0, 0, []), (.if_icmp .eq 347, 3, 1113, [1457]), (.nop, 0, 0, []), (.nop, 0, 0, []), (.nop, 0, 0, []), (.nop, 0, 0, []), (.aload_n 1, 1, 1116, [1]), (.aload_n 0, 1, 1117, [0]), (.iload_n 3, 1, 1118, [3]), (.iconst 1, 1, 1119, [1]), (.iadd, 1, 1120, []), (.iaload, 1, 1121, []), (.invokevirtual 166, 3, 1124, [2, 2, 11, 58, 0, 0, 1270, 1271, 1272, 116, 2, 1, 0]), (.nop, 0, 0, []), (.nop, 0, 0, []), (.aload_n 2, 1, 1125, [2]), (.aload_n 0, 1, 1126, [0]), (.iload_n 3, 1, 1127, [3]), (.iconst 1, 1, 1128, [1]), (.iadd, 1, 1129, []), (.iaload, 1, 1130, []), (.invokevirtual 169, 3, 1133, [2, 2, 12, 188, 0, 0, 1980, 1981, 1982, 134, 4, 1, 0]), (.nop, 0, 0, []), (.nop, 0, 0, []), (.if_icmp .eq 324, 3, 1136, [1457]), (.nop, 0, 0, []), (.nop, 0, 0, []), (.nop, 0, 0, []), (.nop, 0, 0, []), (.aload_n 1, 1, 1139, [1]), (.aload_n 0, 1, 1140, [0]), (.iload_n 3, 1, 1141, [3]), (.iconst 1, 1, 1142, [1]), (.iadd, 1, 1143, []), (.iaload, 1, 1144, []), (.aload_n 0, 1, 1145, [0]), (.iload_n 3, 1, 1146, [3]), (.iconst 2, 1, 1147, [2]), (.iadd, 1, 1148, []), (.iaload, 1, 1149, []), (.invokevirtual 170, 3, 1152, [2, 2, 11, 33, 0, 0, 1274, 1275, 1276, 116, 7, 2, 1, 0]), (.nop, 0, 0, []), (.nop, 0, 0, [])]
noncomputable def zx_c0_18 : List zx_RI := [(.aload_n 2, 1, 1153, [2]), (.aload_n 0, 1, 1154, [0]), (.iload_n 3, 1, 1155, [3]), (.iconst 1, 1, 1156, [1]), (.iadd, 1, 1157, []), (.iaload, 1, 1158, []), (.aload_n 0, 1, 1159, [0]), (.iload_n 3, 1, 1160, [3]), (.iconst 2, 1, 1161, [2]), (.iadd, 1, 1162, []), (.iaload, 1, 1163, []), (.invokevirtual 173, 3, 1166, [2, 2, 12, 157, 0, 0, 2001, 2002, 2003, 134, 5, 2, 1, 0]), (.nop, 0, 0, []), (.nop, 0, 0, []), (.if_icmp .eq 291, 3, 1169, [1457]), (.nop, 0, 0, []), (.nop, 0, 0, []), (.nop, 0, 0, []), (.nop, 0, 0, []), (.aload_n 1, 1, 1172, [1]), (.aload_n 0, 1, 1173, [0]), (.iload_n 3, 1, 1174, [3]), (.iconst 1, 1, 1175, [1]), (.iadd, 1, 1176, []), (.iaload, 1, 1177, []), (.invokevirtual 174, 3, 1180, [2, 2, 11, 29, 0, 0, 1281, 1282, 1283, 116, 2, 1, 0]), (.nop, 0, 0, []), (.nop, 0, 0, []), (.aload_n 2, 1, 1181, [2]), (.aload_n 0, 1, 1182, [0]), (.iload_n 3, 1, 1183, [3]), (.iconst 1, 1, 1184, [1]), (.iadd, 1, 1185, []), (.iaload, 1, 1186, []), (.invokevirtual 177, 3, 1189, [2, 2, 12, 152, 0, 0, 1920, 1921, 1922, 134, 2, 1, 0]), (.nop, 0, 0, []), (.nop, 0, 0, []), (.if_icmp .eq 268, 3, 1192, [1457]), (.nop, 0, 0, []), (.nop, 0, 0, []), (.nop, 0, 0, []), (.nop, 0, 0, []), (.aload_n 1, 1, 1195, [1]), (.aload_n 0, 1, 1196, [0]), (.iload_n 3, 1, 1197, [3]), (.iconst 1, 1, 1198, [1]), (.iadd, 1, 1199, []), (.iaload, 1, 1200, []), (.aload_n 0, 1, 1201, [0]), (.iload_n 3, 1, 1202, [3]), (.iconst 2, 1, 1203, [2]), (.iadd, 1, 1204, []), (.iaload, 1, 1205, []), (.aload_n 0, 1, 1206, [0]), (.iload_n 3, 1, 1207, [3]), (.iconst 3, 1, 1208, [3]), (.iadd, 1, 1209, []), (.iaload, 1, 1210, []), (.ifCond .eq 7, 3, 1213, [1217]), (.nop, 0, 0, []), (.nop, 0, 0, []), (.iconst 1, 1, 1214, [1]), (.goto 4, 3, 1217, [1218]), (.nop, 0, 0, [])]
noncomputable def zx_c0_19 : List zx_RI := [(.nop, 0, 0, []), (.iconst 0, 1, 1218, [0]), (.invokevirtual 178, 3, 1221, [2, 2, 11, 44, 0, 0, 1285, 1286, 1287, 116, 4, 3, 2, 1, 0]), (.nop, 0, 0, []), (.nop, 0, 0, []), (.aload_n 2, 1, 1222, [2]), (.aload_n 0, 1, 1223, [0]), (.iload_n 3, 1, 1224, [3]), (.iconst 1, 1, 1225, [1]), (.iadd, 1, 1226, []), (.iaload, 1, 1227, []), (.aload_n 0, 1, 1228, [0]), (.iload_n 3, 1, 1229, [3]), (.iconst 2, 1, 1230, [2]), (.iadd, 1, 1231, []), (.iaload, 1, 1232, []), (.aload_n 0, 1, 1233, [0]), (.iload_n 3, 1, 1234, [3]), (.iconst 3, 1, 1235, [3]), (.iadd, 1, 1236, []), (.iaload, 1, 1237, []), (.ifCond .eq 7, 3, 1240, [1244]), (.nop, 0, 0, []), (.nop, 0, 0, []), (.iconst 1, 1, 1241, [1]), (.goto 4, 3, 1244, [1245]), (.nop, 0, 0, []), (.nop, 0, 0, []), (.iconst 0, 1, 1245, [0]), (.invokevirtual 182, 3, 1248, [2, 2, 12, 171, 0, 0, 2008, 2009, 2010, 134, 4, 3, 2, 1, 0]), (.nop, 0, 0, []), (.nop, 0, 0, []), (.if_icmp .eq 209, 3, 1251, [1457]), (.nop, 0, 0, []), (.nop, 0, 0, []), (.nop, 0, 0, []), (.nop, 0, 0, []), (.aload_n 1, 1, 1254, [1]), (.aload_n 0, 1, 1255, [0]), (.iload_n 3, 1, 1256, [3]), (.iconst 1, 1, 1257, [1]), (.iadd, 1, 1258, []), (.iaload, 1, 1259, []), (.invokevirtual 183, 3, 1262, [2, 2, 11, 55, 0, 0, 1293, 1294, 1295, 116, 2, 1, 0]), (.nop, 0, 0, []), (.nop, 0, 0, []), (.aload_n 2, 1, 1263, [2]), (.aload_n 0, 1, 1264, [0]), (.iload_n 3, 1, 1265, [3]), (.iconst 1, 1, 1266, [1]), (.iadd, 1, 1267, []), (.iaload, 1, 1268, []), (.invokevirtual 187, 3, 1271, [2, 2, 12, 185, 0, 0, 2012, 2013, 2014, 134, 2, 1, 0]), (.nop, 0, 0, []), (.nop, 0, 0, []), (.if_icmp .eq 186, 3, 1274, [1457]), (.nop, 0, 0, []), (.nop, 0, 0, []), (.nop, 0, 0, []), (.nop, 0, 0, []), (.aload_n 1, 1, 1277, [1]), (.aload_n 0, 1, 1278, [0]), (.iload_n 3, 1, 1279, [3]), (.iconst 1, 1, 1280, [1])]
noncomputable def zx_c0_20 : List zx_RI := [(.iadd, 1, 1281, []), (.iaload, 1, 1282, []), (.invokevirtual 188, 3, 1285, [2, 2, 11, 26, 0, 0, 1301, 1302, 1303, 116, 2, 1, 0]), (.nop, 0, 0, []), (.nop, 0, 0, []), (.aload_n 2, 1, 1286, [2]), (.aload_n 0, 1, 1287, [0]), (.iload_n 3, 1, 1288, [3]), (.iconst 1, 1, 1289, [1]), (.iadd, 1, 1290, []), (.iaload, 1, 1291, []), (.invokevirtual 191, 3, 1294, [2, 2, 12, 147, 0, 0, 2016, 2017, 2018, 134, 2, 1, 0]), (.nop, 0, 0, []), (.nop, 0, 0, []), (.if_icmp .eq 163, 3, 1297, [1457]), (.nop, 0, 0, []), (.nop, 0, 0, []), (.nop, 0, 0, []), (.nop, 0, 0, []), (.aload_n 1, 1, 1300, [1]), (.aload_n 0, 1, 1301, [0]), (.iload_n 3, 1, 1302, [3]), (.iconst 1, 1, 1303, [1]), (.iadd, 1, 1304, []), (.iaload, 1, 1305, []), (.invokevirtual 192, 3, 1308, [2, 2, 11, 19, 0, 0, 1310, 1311, 1312, 116, 2, 1, 0]), (.nop, 0, 0, []), (.nop, 0, 0, []), (.aload_n 2, 1, 1309, [2]), (.aload_n 0, 1, 1310, [0]), (.iload_n 3, 1, 1311, [3]), (.iconst 1, 1, 1312, [1]), (.iadd, 1, 1313, []), (.iaload, 1, 1314, []), (.invokevirtual 195, 3, 1317, [2, 2, 12, 131, 0, 0, 2020, 2021, 2022, 134, 4, 1, 0]), (.nop, 0, 0, []), (.nop, 0, 0, []), (.if_icmp .eq 140, 3, 1320, [1457]), (.nop, 0, 0, []), (.nop, 0, 0, []), (.nop, 0, 0, []), (.nop, 0, 0, []), (.aload_n 1, 1, 1323, [1]), (.aload_n 0, 1, 1324, [0]), (.iload_n 3, 1, 1325, [3]), (.iconst 1, 1, 1326, [1]), (.iadd, 1, 1327, []), (.iaload, 1, 1328, []), (.aload_n 0, 1, 1329, [0]), (.iload_n 3, 1, 1330, [3]), (.iconst 2, 1, 1331, [2]), (.iadd, 1, 1332, []), (.iaload, 1, 1333, []), (.invokevirtual 196, 3, 1336, [2, 2, 11, 48, 0, 0, 1326, 1327, 1328, 116, 4, 2, 1, 0]), (.nop, 0, 0, []), (.nop, 0, 0, []), (.aload_n 2, 1, 1337, [2]), (.aload_n 0, 1, 1338, [0]), (.iload_n 3, 1, 1339, [3]), (.iconst 1, 1, 1340, [1]), (.iadd, 1, 1341, []), (.iaload, 1, 1342, []), (.aload_n 0, 1, 1343, [0]), (.iload_n 3, 1, 1344, [3])]
noncomputable def zx_c0_21 : List zx_RI := [(.iconst 2, 1, 1345, [2]), (.iadd, 1, 1346, []), (.iaload, 1, 1347, []), (.invokevirtual 199, 3, 1350, [2, 2, 12, 177, 0, 0, 2032, 2033, 2034, 134, 4, 2, 1, 0]), (.nop, 0, 0, []), (.nop, 0, 0, []), (.if_icmp .eq 107, 3, 1353, [1457]), (.nop, 0, 0, []), (.nop, 0, 0, []), (.nop, 0, 0, []), (.nop, 0, 0, []), (.aload_n 1, 1, 1356, [1]), (.aload_n 0, 1, 1357, [0]), (.iload_n 3, 1, 1358, [3]), (.iconst 1, 1, 1359, [1]), (.iadd, 1, 1360, []), (.iaload, 1, 1361, []), (.aload_n 0, 1, 1362, [0]), (.iload_n 3, 1, 1363, [3]), (.iconst 2, 1, 1364, [2]), (.iadd, 1, 1365, []), (.iaload, 1, 1366, []), (.invokevirtual 200, 3, 1369, [2, 2, 11, 3, 0, 0, 1336, 1337, 1338, 116, 8, 2, 1, 0]), (.nop, 0, 0, []), (.nop, 0, 0, []), (.aload_n 2, 1, 1370, [2]), (.aload_n 0, 1, 1371, [0]), (.iload_n 3, 1, 1372, [3]), (.iconst 1, 1, 1373, [1]), (.iadd, 1, 1374, []), (.iaload, 1, 1375, []), (.aload_n 0, 1, 1376, [0]), (.iload_n 3, 1, 1377, [3]), (.iconst 2, 1, 1378, [2]), (.iadd, 1, 1379, []), (.iaload, 1, 1380, []), (.invokevirtual 203, 3, 1383, [2, 2, 12, 112, 0, 0, 2037, 2038, 2039, 134, 5, 2, 1, 0]), (.nop, 0, 0, []), (.nop, 0, 0, []), (.if_icmp .eq 74, 3, 1386, [1457]), (.nop, 0, 0, []), (.nop, 0, 0, []), (.nop, 0, 0, []), (.nop, 0, 0, []), (.aload_n 1, 1, 1389, [1]), (.aload_n 0, 1, 1390, [0]), (.iload_n 3, 1, 1391, [3]), (.iconst 1, 1, 1392, [1]), (.iadd, 1, 1393, []), (.iaload, 1, 1394, []), (.invokevirtual 204, 3, 1397, [2, 2, 11, 23, 0, 0, 1345, 1346, 1347, 116, 2, 1, 0]), (.nop, 0, 0, []), (.nop, 0, 0, []), (.aload_n 2, 1, 1398, [2]), (.aload_n 0, 1, 1399, [0]), (.iload_n 3, 1, 1400, [3]), (.iconst 1, 1, 1401, [1]), (.iadd, 1, 1402, []), (.iaload, 1, 1403, []), (.invokevirtual 207, 3, 1406, [2, 2, 12, 140, 0, 0, 2045, 2046, 2047, 134, 3, 1, 0]), (.nop, 0, 0, []), (.nop, 0, 0, []), (.if_icmp .eq 51, 3, 1409, [1457]), (.nop, 0, 0, [])]
noncomputable def zx_c0_22 : List zx_RI := [(.nop, 0, 0, []), (.nop, 0, 0, []), (.nop, 0, 0, []), (.aload_n 1, 1, 1412, [1]), (.aload_n 0, 1, 1413, [0]), (.iload_n 3, 1, 1414, [3]), (.iconst 1, 1, 1415, [1]), (.iadd, 1, 1416, []), (.iaload, 1, 1417, []), (.invokevirtual 208, 3, 1420, [2, 2, 11, 4, 0, 0, 1350, 1351, 1352, 116, 2, 1, 0]), (.nop, 0, 0, []), (.nop, 0, 0, []), (.aload_n 2, 1, 1421, [2]), (.aload_n 0, 1, 1422, [0]), (.iload_n 3, 1, 1423, [3]), (.iconst 1, 1, 1424, [1]), (.iadd, 1, 1425, []), (.iaload, 1, 1426, []), (.invokevirtual 211, 3, 1429, [2, 2, 12, 113, 0, 0, 2049, 2050, 2051, 134, 3, 1, 0]), (.nop, 0, 0, []), (.nop, 0, 0, []), (.if_icmp .eq 28, 3, 1432, [1457]), (.nop, 0, 0, []), (.nop, 0, 0, []), (.nop, 0, 0, []), (.nop, 0, 0, []), (.aload_n 1, 1, 1435, [1]), (.aload_n 0, 1, 1436, [0]), (.iload_n 3, 1, 1437, [3]), (.iconst 1, 1, 1438, [1]), (.iadd, 1, 1439, []), (.iaload, 1, 1440, []), (.invokevirtual 212, 3, 1443, [2, 2, 11, 2, 0, 0, 1355, 1356, 1357, 116, 2, 1, 0]), (.nop, 0, 0, []), (.nop, 0, 0, []), (.aload_n 2, 1, 1444, [2]), (.aload_n 0, 1, 1445, [0]), (.iload_n 3, 1, 1446, [3]), (.iconst 1, 1, 1447, [1]), (.iadd, 1, 1448, []), (.iaload, 1, 1449, []), (.invokevirtual 215, 3, 1452, [2, 2, 12, 111, 0, 0, 2053, 2054, 2055, 134, 2, 1, 0]), (.nop, 0, 0, []), (.nop, 0, 0, []), (.if_icmp .eq 5, 3, 1455, [1457]), (.nop, 0, 0, []), (.nop, 0, 0, []), (.nop, 0, 0, []), (.nop, 0, 0, []), (.iinc 3 6, 3, 1460, [3, 6]), (.nop, 0, 0, []), (.nop, 0, 0, []), (.goto (-1442), 3, 1463, [18]), (.nop, 0, 0, []), (.nop, 0, 0, []), (.iconst 1, 1, 1464, [1]), (.ireturn, 1, 1465, [1])]
noncomputable def zx_c0 : List zx_RI := zx_c0_0 ++ (zx_c0_1 ++ (zx_c0_2 ++ (zx_c0_3 ++ (zx_c0_4 ++ (zx_c0_5 ++ (zx_c0_6 ++ (zx_c0_7 ++ (zx_c0_8 ++ (zx_c0_9 ++ (zx_c0_10 ++ (zx_c0_11 ++ (zx_c0_12 ++ (zx_c0_13 ++ (zx_c0_14 ++ (zx_c0_15 ++ (zx_c0_16 ++ (zx_c0_17 ++ (zx_c0_18 ++ (zx_c0_19 ++ (zx_c0_20 ++ (zx_c0_21 ++ (zx_c0_22))))))))))))))))))))))
noncomputable def zx_c1 : List zx_RI := [(.aload_n 0, 1, 1, [0]), (.invokespecial 1, 3, 4, [0, 142]), (.nop, 0, 0, []), (.nop, 0, 0, []), (.aload_n 0, 1, 5, [0]), (.sipush 1600, 3, 8, [1600]), (.nop, 0, 0, []), (.nop, 0, 0, []), (.newarray .byte, 2, 10, []), (.nop, 0, 0, []), (.putfield 9, 3, 13, [11, 0, 2, 630]), (.nop, 0, 0, []), (.nop, 0, 0, []), (.aload_n 0, 1, 14, [0]), (.iconst 0, 1, 15, [0]), (.putfield 13, 3, 18, [11, 1, 0, 631]), (.nop, 0, 0, []), (.nop, 0, 0, []), (.aload_n 0, 1, 19, [0]), (.new 17, 3, 22, [4, 6, 145, 146, 117]), (.nop, 0, 0, []), (.nop, 0, 0, []), (.dup, 1, 23, []), (.invokespecial 19, 3, 26, [2, 2, 4, 72, 5, 4827, 147, 148, 0, 117, 1, 0]), (.nop, 0, 0, []), (.nop, 0, 0, []), (.putfield 20, 3, 29, [11, 2, 2, 632]), (.nop, 0, 0, []), (.nop, 0, 0, []), (.aload_n 0, 1, 30, [0]), (.new 24, 3, 33, [10, 13, 266, 267, 123]), (.nop, 0, 0, []), (.nop, 0, 0, []), (.dup, 1, 34, []), (.invokespecial 26, 3, 37, [2, 2, 10, 108, 11, 707, 268, 269, 0, 123, 1, 0]), (.nop, 0, 0, []), (.nop, 0, 0, []), (.putfield 27, 3, 40, [11, 3, 2, 633]), (.nop, 0, 0, []), (.nop, 0, 0, []), (.aload_n 0, 1, 41, [0]), (.new 24, 3, 44, [10, 13, 266, 267, 123]), (.nop, 0, 0, []), (.nop, 0, 0, []), (.dup, 1, 45, []), (.invokespecial 26, 3, 48, [2, 2, 10, 108, 11, 707, 268, 269, 0, 123, 1, 0]), (.nop, 0, 0, []), (.nop, 0, 0, []), (.putfield 31, 3, 51, [11, 4, 2, 634]), (.nop, 0, 0, []), (.nop, 0, 0, []), (.aload_n 0, 1, 52, [0]), (.new 34, 3, 55, [6, 9, 371, 372, 125]), (.nop, 0, 0, []), (.nop, 0, 0, []), (.dup, 1, 56, []), (.aload_n 0, 1, 57, [0]), (.getfield 27, 3, 60, [0, 11, 3, 633]), (.nop, 0, 0, []), (.nop, 0, 0, []), (.invokespecial 36, 3, 63, [2, 2, 6, 80, 6, 30, 373, 374, 0, 125, 2, 1, 0]), (.nop, 0, 0, []), (.nop, 0, 0, []), (.putfield 39, 3, 66, [11, 5, 2, 635]), (.nop, 0, 0, []), (.nop, 0, 0, []), (.aload_n 0, 1, 67, [0]), (.new 34, 3, 70, [6, 9, 371, 372, 125]), (.nop, 0, 0, []), (.nop, 0, 0, []), (.dup, 1, 71, []), (.aload_n 0, 1, 72, [0]), (.getfield 27, 3, 75, [0, 11, 3, 633]), (.nop, 0, 0, []), (.nop, 0, 0, []), (.invokespecial 36, 3, 78, [2, 2, 6, 80, 6, 30, 373, 374, 0, 125, 2, 1, 0]), (.nop, 0, 0, []), (.nop, 0, 0, []), (.putfield 43, 3, 81, [11, 6, 2, 636]), (.nop, 0, 0, []), (.nop, 0, 0, []), (.aload_n 0, 1, 82, [0]), (.new 46, 3, 85, [5, 3, 414, 415, 126]), (.nop, 0, 0, []), (.nop, 0, 0, []), (.dup, 1, 86, []), (.invokespecial 48, 3, 89, [2, 2, 5, 75, 2, 1313, 416, 417, 0, 126, 1, 0]), (.nop, 0, 0, []), (.nop, 0, 0, []), (.putfield 49, 3, 92, [11, 7, 2, 637]), (.nop, 0, 0, []), (.nop, 0, 0, []), (.aload_n 0, 1, 93, [0]), (.new 53, 3, 96, [8, 1, 445, 421, 127]), (.nop, 0, 0, []), (.nop, 0, 0, []), (.dup, 1, 97, []), (.iconst 3, 1, 98, [3]), (.invokespecial 55, 3, 101, [2, 2, 8, 100, 1, 1312, 446, 423, 0, 127, 2, 1, 0]), (.nop, 0, 0, []), (.nop, 0, 0, []), (.putfield 58, 3, 104, [11, 8, 2, 638]), (.nop, 0, 0, []), (.nop, 0, 0, []), (.aload_n 0, 1, 105, [0]), (.iconst 3, 1, 106, [3]), (.newarray .boolean, 2, 108, []), (.nop, 0, 0, []), (.putfield 62, 3, 111, [11, 9, 2, 639]), (.nop, 0, 0, []), (.nop, 0, 0, []), (.aload_n 0, 1, 112, [0]), (.new 66, 3, 115, [3, 2, 447, 448, 129]), (.nop, 0, 0, []), (.nop, 0, 0, []), (.dup, 1, 116, []), (.invokespecial 68, 3, 119, [2, 2, 3, 67, 2, 128, 449, 450, 0, 129, 2, 0]), (.nop, 0, 0, []), (.nop, 0, 0, []), (.putfield 69, 3, 122, [11, 10, 2, 640]), (.nop, 0, 0, []), (.nop, 0, 0, []), (.aload_n 0, 1, 123, [0]), (.new 73, 3, 126, [7, 11, 477, 478, 130]), (.nop, 0, 0, []), (.nop, 0, 0, []), (.dup, 1, 127, []), (.invokespecial 75, 3, 130, [2, 2, 7, 93, 5, 65, 479, 480, 0, 130, 1, 0]), (.nop, 0, 0, []), (.nop, 0, 0, []), (.putfield 76, 3, 133, [11, 11, 2, 641]), (.nop, 0, 0, []), (.nop, 0, 0, []), (.aload_n 0, 1, 134, [0]), (.new 80, 3, 137, [0, 4, 518, 519, 131]), (.nop, 0, 0, []), (.nop, 0, 0, []), (.dup, 1, 138, []), (.invokespecial 82, 3, 141, [2, 2, 0, 59, 2, 50, 520, 521, 0, 131, 1, 0]), (.nop, 0, 0, []), (.nop, 0, 0, []), (.putfield 83, 3, 144, [11, 12, 2, 642]), (.nop, 0, 0, []), (.nop, 0, 0, []), (.aload_n 0, 1, 145, [0]), (.new 87, 3, 148, [2, 11, 539, 540, 132]), (.nop, 0, 0, []), (.nop, 0, 0, []), (.dup, 1, 149, []), (.invokespecial 89, 3, 152, [2, 2, 2, 62, 7, 405, 541, 542, 0, 132, 1, 0]), (.nop, 0, 0, []), (.nop, 0, 0, []), (.putfield 90, 3, 155, [11, 13, 2, 643]), (.nop, 0, 0, []), (.nop, 0, 0, []), (.aload_n 0, 1, 156, [0]), (.bipush 64, 2, 158, [64]), (.nop, 0, 0, []), (.newarray .int, 2, 160, []), (.nop, 0, 0, []), (.putfield 94, 3, 163, [11, 14, 2, 644]), (.nop, 0, 0, []), (.nop, 0, 0, []), (.aload_n 0, 1, 164, [0]), (.iconst 0, 1, 165, [0]), (.putfield 98, 3, 168, [11, 15, 0, 645]), (.nop, 0, 0, []), (.nop, 0, 0, []), (.aload_n 0, 1, 169, [0]), (.invokevirtual 101, 3, 172, [2, 2, 11, 6, 0, 0, 581, 583, 1, 116, 2, 0]), (.nop, 0, 0, []), (.nop, 0, 0, []), (.return_, 1, 173, [])]
noncomputable def zx_c2 : List zx_RI := [(.iload_n 1, 1, 1, [1]), (.tableswitch 180 0 13 #[71, 79, 87, 95, 103, 111, 119, 127, 135, 143, 151, 156, 167, 172], 71, 72, [181, 72, 80, 88, 96, 104, 112, 120, 128, 136, 144, 152, 157, 168, 173]), (.nop, 0, 0, []), (.nop, 0, 0, []), (.nop, 0, 0, []), (.nop, 0, 0, []), (.nop, 0, 0, []), (.nop, 0, 0, []), (.nop, 0, 0, []), (.nop, 0, 0, []), (.nop, 0, 0, []), (.nop, 0, 0, []), (.nop, 0, 0, []), (.nop, 0, 0, []), (.nop, 0, 0, []), (.nop, 0, 0, []), (.nop, 0, 0, []), (.nop, 0, 0, []), (.nop, 0, 0, []), (.nop, 0, 0, []), (.nop, 0, 0, []), (.nop, 0, 0, []), (.nop, 0, 0, []), (.nop, 0, 0, []), (.nop, 0, 0, []), (.nop, 0, 0, []), (.nop, 0, 0, []), (.nop, 0, 0, []), (.nop, 0, 0, []), (.nop, 0, 0, []), (.nop, 0, 0, []), (.nop, 0, 0, []), (.nop, 0, 0, []), (.nop, 0, 0, []), (.nop, 0, 0, []), (.nop, 0, 0, []), (.nop, 0, 0, []), (.nop, 0, 0, []), (.nop, 0, 0, []), (.nop, 0, 0, []), (.nop, 0, 0, []), (.nop, 0, 0, []), (.nop, 0, 0, []), (.nop, 0, 0, []), (.nop, 0, 0, []), (.nop, 0, 0, []), (.nop, 0, 0, []), (.nop, 0, 0, []), (.nop, 0, 0, []), (.nop, 0, 0, []), (.nop, 0, 0, []), (.nop, 0, 0, []), (.nop, 0, 0, []), (.nop, 0, 0, []), (.nop, 0, 0, []), (.nop, 0, 0, []), (.nop, 0, 0, []), (.nop, 0, 0, []), (.nop, 0, 0, []), (.nop, 0, 0, []), (.nop, 0, 0, []), (.nop, 0, 0, []), (.nop, 0, 0, []), (.nop, 0, 0, []), (.nop, 0, 0, []), (.nop, 0, 0, []), (.nop, 0, 0, []), (.nop, 0, 0, []), (.nop, 0, 0, []), (.nop, 0, 0, []), (.nop, 0, 0, []), (.nop, 0, 0, []), (.aload_n 0, 1, 73, [0]), (.getfield 27, 3, 76, [0, 11, 3, 633]), (.nop, 0, 0, []), (.nop, 0, 0, []), (.getfield 111, 3, 79, [0, 10, 1, 310]), (.nop, 0, 0, []), (.nop, 0, 0, []), (.ireturn, 1, 80, [0]), (.aload_n 0, 1, 81, [0]), (.getfield 27, 3, 84, [0, 11, 3, 633]), (.nop, 0, 0, []), (.nop, 0, 0, []), (.getfield 244, 3, 87, [0, 10, 0, 307]), (.nop, 0, 0, []), (.nop, 0, 0, []), (.ireturn, 1, 88, [0]), (.aload_n 0, 1, 89, [0]), (.getfield 39, 3, 92, [0, 11, 5, 635]), (.nop, 0, 0, []), (.nop, 0, 0, []), (.invokevirtual 212, 3, 95, [2, 2, 6, 86, 0, 0, 1089, 994, 995, 125, 3, 0]), (.nop, 0, 0, []), (.nop, 0, 0, []), (.ireturn, 1, 96, [0]), (.aload_n 0, 1, 97, [0]), (.getfield 39, 3, 100, [0, 11, 5, 635]), (.nop, 0, 0, []), (.nop, 0, 0, []), (.invokevirtual 270, 3, 103, [2, 2, 6, 89, 0, 0, 1229, 977, 978, 125, 1, 0]), (.nop, 0, 0, []), (.nop, 0, 0, []), (.ireturn, 1, 104, [0]), (.aload_n 0, 1, 105, [0]), (.getfield 39, 3, 108, [0, 11, 5, 635]), (.nop, 0, 0, []), (.nop, 0, 0, []), (.getfield 165, 3, 111, [0, 6, 7, 392]), (.nop, 0, 0, []), (.nop, 0, 0, []), (.ireturn, 1, 112, [0]), (.aload_n 0, 1, 113, [0]), (.getfield 39, 3, 116, [0, 11, 5, 635]), (.nop, 0, 0, []), (.nop, 0, 0, []), (.getfield 327, 3, 119, [0, 6, 8, 394]), (.nop, 0, 0, []), (.nop, 0, 0, []), (.ireturn, 1, 120, [0]), (.aload_n 0, 1, 121, [0]), (.getfield 49, 3, 124, [0, 11, 7, 637]), (.nop, 0, 0, []), (.nop, 0, 0, []), (.getfield 330, 3, 127, [0, 5, 0, 434]), (.nop, 0, 0, []), (.nop, 0, 0, []), (.ireturn, 1, 128, [0]), (.aload_n 0, 1, 129, [0]), (.getfield 49, 3, 132, [0, 11, 7, 637]), (.nop, 0, 0, []), (.nop, 0, 0, []), (.getfield 333, 3, 135, [0, 5, 1, 436]), (.nop, 0, 0, []), (.nop, 0, 0, []), (.ireturn, 1, 136, [0]), (.aload_n 0, 1, 137, [0]), (.getfield 90, 3, 140, [0, 11, 13, 643]), (.nop, 0, 0, []), (.nop, 0, 0, []), (.getfield 336, 3, 143, [0, 2, 0, 546]), (.nop, 0, 0, []), (.nop, 0, 0, []), (.ireturn, 1, 144, [0]), (.aload_n 0, 1, 145, [0]), (.getfield 90, 3, 148, [0, 11, 13, 643]), (.nop, 0, 0, []), (.nop, 0, 0, []), (.getfield 339, 3, 151, [0, 2, 1, 548]), (.nop, 0, 0, []), (.nop, 0, 0, []), (.ireturn, 1, 152, [0]), (.aload_n 0, 1, 153, [0]), (.getfield 13, 3, 156, [0, 11, 1, 631]), (.nop, 0, 0, []), (.nop, 0, 0, []), (.ireturn, 1, 157, [0]), (.aload_n 0, 1, 158, [0]), (.getfield 27, 3, 161, [0, 11, 3, 633]), (.nop, 0, 0, []), (.nop, 0, 0, []), (.getfield 342, 3, 164, [0, 10, 12, 343]), (.nop, 0, 0, []), (.nop, 0, 0, []), (.getfield 346, 3, 167, [0, 1, 1, 282]), (.nop, 0, 0, []), (.nop, 0, 0, []), (.ireturn, 1, 168, [0]), (.aload_n 0, 1, 169, [0]), (.getfield 98, 3, 172, [0, 11, 15, 645]), (.nop, 0, 0, []), (.nop, 0, 0, []), (.ireturn, 1, 173, [0]), (.aload_n 0, 1, 174, [0]), (.getfield 27, 3, 177, [0, 11, 3, 633]), (.nop, 0, 0, []), (.nop, 0, 0, []), (.getfield 289, 3, 180, [0, 10, 2, 316]), (.nop, 0, 0, []), (.nop, 0, 0, []), (.ireturn, 1, 181, [0]), (.iconst (-1), 1, 182, [4294967295]), (.ireturn, 1, 183, [0])]
noncomputable def zx_c3 : List zx_RI := [(.aload_n 0, 1, 1, [0]), (.getfield 90, 3, 4, [0, 11, 13, 643]), (.nop, 0, 0, []), (.nop, 0, 0, []), (.iload_n 2, 1, 5, [2]), (.invokevirtual 305, 3, 8, [2, 2, 2, 64, 0, 0, 1314, 1315, 1316, 132, 4, 1, 0]), (.nop, 0, 0, []), (.nop, 0, 0, []), (.istore_n 3, 1, 9, [3]), (.iload_n 3, 1, 10, [3]), (.ifCond .eq 12, 3, 13, [22]), (.nop, 0, 0, []), (.nop, 0, 0, []), (.nop, 0, 0, []), (.nop, 0, 0, []), (.nop, 0, 0, []), (.nop, 0, 0, []), (.nop, 0, 0, []), (.nop, 0, 0, []), (.nop, 0, 0, []), (.nop, 0, 0, []), (.nop, 0, 0, []), (.iconst (-1), 1, 23, [4294967295]), (.ireturn, 1, 24, [0])]
noncomputable def zx_c4 : List zx_RI := [(.iload_n 1, 1, 1, [1]), (.ifCond .lt 17, 3, 4, [18]), (.nop, 0, 0, []), (.nop, 0, 0, []), (.iload_n 1, 1, 5, [1]), (.iconst 3, 1, 6, [3]), (.if_icmp .ge 12, 3, 9, [18]), (.nop, 0, 0, []), (.nop, 0, 0, []), (.aload_n 0, 1, 10, [0]), (.getfield 62, 3, 13, [0, 11, 9, 639]), (.nop, 0, 0, []), (.nop, 0, 0, []), (.iload_n 1, 1, 14, [1]), (.baload, 1, 15, []), (.ifCond .ne 5, 3, 18, [20]), (.nop, 0, 0, []), (.nop, 0, 0, []), (.iconst (-1), 1, 19, [4294967295]), (.ireturn, 1, 20, [0])]
noncomputable def zx_c5 : List zx_RI := [(.aload_n 0, 1, 1, [0]), (.getfield 20, 3, 4, [0, 11, 2, 632]), (.nop, 0, 0, []), (.nop, 0, 0, []), (.aload_n 0, 1, 5, [0]), (.getfield 9, 3, 8, [0, 11, 0, 630]), (.nop, 0, 0, []), (.nop, 0, 0, []), (.aload_n 0, 1, 9, [0]), (.getfield 13, 3, 12, [0, 11, 1, 631]), (.nop, 0, 0, []), (.nop, 0, 0, []), (.aload_n 0, 1, 13, [0]), (.getfield 31, 3, 16, [0, 11, 4, 634]), (.nop, 0, 0, []), (.nop, 0, 0, []), (.invokevirtual 107, 3, 19, [2, 2, 4, 74, 0, 0, 695, 696, 697, 117, 5, 3, 2, 1, 0]), (.nop, 0, 0, []), (.nop, 0, 0, []), (.ifCond .ne 5, 3, 22, [24]), (.nop, 0, 0, []), (.nop, 0, 0, []), (.nop, 0, 0, []), (.nop, 0, 0, []), (.aload_n 0, 1, 25, [0]), (.getfield 27, 3, 28, [0, 11, 3, 633]), (.nop, 0, 0, []), (.nop, 0, 0, []), (.astore_n 1, 1, 29, [1]), (.aload_n 0, 1, 30, [0]), (.aload_n 0, 1, 31, [0]), (.getfield 31, 3, 34, [0, 11, 4, 634]), (.nop, 0, 0, []), (.nop, 0, 0, []), (.putfield 27, 3, 37, [11, 3, 2, 633]), (.nop, 0, 0, []), (.nop, 0, 0, []), (.aload_n 0, 1, 38, [0]), (.aload_n 1, 1, 39, [1]), (.putfield 31, 3, 42, [11, 4, 2, 634]), (.nop, 0, 0, []), (.nop, 0, 0, []), (.aload_n 0, 1, 43, [0]), (.iconst 0, 1, 44, [0]), (.putfield 13, 3, 47, [11, 1, 0, 631]), (.nop, 0, 0, []), (.nop, 0, 0, []), (.aload_n 0, 1, 48, [0]), (.invokevirtual 101, 3, 51, [2, 2, 11, 6, 0, 0, 581, 583, 1, 116, 2, 0]), (.nop, 0, 0, []), (.nop, 0, 0, []), (.aload_n 0, 1, 52, [0]), (.getfield 27, 3, 55, [0, 11, 3, 633]), (.nop, 0, 0, []), (.nop, 0, 0, []), (.getfield 111, 3, 58, [0, 10, 1, 310]), (.nop, 0, 0, []), (.nop, 0, 0, []), (.ireturn, 1, 59, [0])]
noncomputable def zx_c6 : List zx_RI := [(.aload_n 0, 1, 1, [0]), (.getfield 39, 3, 4, [0, 11, 5, 635]), (.nop, 0, 0, []), (.nop, 0, 0, []), (.aload_n 0, 1, 5, [0]), (.getfield 27, 3, 8, [0, 11, 3, 633]), (.nop, 0, 0, []), (.nop, 0, 0, []), (.invokevirtual 351, 3, 11, [2, 2, 6, 81, 0, 0, 585, 586, 587, 125, 3, 1, 0]), (.nop, 0, 0, []), (.nop, 0, 0, []), (.aload_n 0, 1, 12, [0]), (.getfield 49, 3, 15, [0, 11, 7, 637]), (.nop, 0, 0, []), (.nop, 0, 0, []), (.aload_n 0, 1, 16, [0]), (.getfield 39, 3, 19, [0, 11, 5, 635]), (.nop, 0, 0, []), (.nop, 0, 0, []), (.invokevirtual 324, 3, 22, [2, 2, 5, 76, 0, 0, 589, 590, 591, 126, 2, 1, 0]), (.nop, 0, 0, []), (.nop, 0, 0, []), (.aload_n 0, 1, 23, [0]), (.getfield 90, 3, 26, [0, 11, 13, 643]), (.nop, 0, 0, []), (.nop, 0, 0, []), (.aload_n 0, 1, 27, [0]), (.getfield 27, 3, 30, [0, 11, 3, 633]), (.nop, 0, 0, []), (.nop, 0, 0, []), (.invokevirtual 353, 3, 33, [2, 2, 2, 63, 0, 0, 604, 605, 606, 132, 4, 1, 0]), (.nop, 0, 0, []), (.nop, 0, 0, []), (.aload_n 0, 1, 34, [0]), (.iconst 0, 1, 35, [0]), (.putfield 98, 3, 38, [11, 15, 0, 645]), (.nop, 0, 0, []), (.nop, 0, 0, []), (.iconst 0, 1, 39, [0]), (.istore_n 1, 1, 40, [1]), (.iload_n 1, 1, 41, [1]), (.aload_n 0, 1, 42, [0]), (.getfield 62, 3, 45, [0, 11, 9, 639]), (.nop, 0, 0, []), (.nop, 0, 0, []), (.arraylength, 1, 46, []), (.if_icmp .ge 16, 3, 49, [62]), (.nop, 0, 0, []), (.nop, 0, 0, []), (.aload_n 0, 1, 50, [0]), (.getfield 62, 3, 53, [0, 11, 9, 639]), (.nop, 0, 0, []), (.nop, 0, 0, []), (.iload_n 1, 1, 54, [1]), (.iconst 0, 1, 55, [0]), (.bastore, 1, 56, []), (.iinc 1 1, 3, 59, [1, 1]), (.nop, 0, 0, []), (.nop, 0, 0, []), (.goto (-19), 3, 62, [40]), (.nop, 0, 0, []), (.nop, 0, 0, []), (.return_, 1, 63, [])]
noncomputable def zx_c7 : List zx_RI := [(.aload_n 0, 1, 1, [0]), (.iload_n 1, 1, 2, [1]), (.invokevirtual 144, 3, 5, [2, 2, 11, 25, 0, 0, 936, 938, 33, 116, 2, 1, 0]), (.nop, 0, 0, []), (.nop, 0, 0, []), (.ifCond .eq 12, 3, 8, [17]), (.nop, 0, 0, []), (.nop, 0, 0, []), (.nop, 0, 0, []), (.nop, 0, 0, []), (.nop, 0, 0, []), (.nop, 0, 0, []), (.nop, 0, 0, []), (.nop, 0, 0, []), (.nop, 0, 0, []), (.nop, 0, 0, []), (.nop, 0, 0, []), (.iconst (-1), 1, 18, [4294967295]), (.ireturn, 1, 19, [0])]
noncomputable def zx_c8 : List zx_RI := [(.iconst 0, 1, 1, [0]), (.istore_n 1, 1, 2, [1]), (.iconst 0, 1, 3, [0]), (.istore_n 2, 1, 4, [2]), (.iload_n 2, 1, 5, [2]), (.aload_n 0, 1, 6, [0]), (.getfield 27, 3, 9, [0, 11, 3, 633]), (.nop, 0, 0, []), (.nop, 0, 0, []), (.getfield 111, 3, 12, [0, 10, 1, 310]), (.nop, 0, 0, []), (.nop, 0, 0, []), (.if_icmp .ge 55, 3, 15, [67]), (.nop, 0, 0, []), (.nop, 0, 0, []), (.nop, 0, 0, []), (.nop, 0, 0, []), (.nop, 0, 0, []), (.nop, 0, 0, []), (.nop, 0, 0, []), (.nop, 0, 0, []), (.nop, 0, 0, []), (.nop, 0, 0, []), (.nop, 0, 0, []), (.nop, 0, 0, []), (.nop, 0, 0, []), (.nop, 0, 0, []), (.nop, 0, 0, []), (.nop, 0, 0, []), (.nop, 0, 0, []), (.nop, 0, 0, []), (.nop, 0, 0, []), (.nop, 0, 0, []), (.nop, 0, 0, []), (.nop, 0, 0, []), (.nop, 0, 0, []), (.nop, 0, 0, []), (.nop, 0, 0, []), (.nop, 0, 0, []), (.nop, 0, 0, []), (.nop, 0, 0, []), (.nop, 0, 0, []), (.nop, 0, 0, []), (.nop, 0, 0, []), (.nop, 0, 0, []), (.nop, 0, 0, []), (.nop, 0, 0, []), (.nop, 0, 0, []), (.nop, 0, 0, []), (.nop, 0, 0, []), (.nop, 0, 0, []), (.nop, 0, 0, []), (.nop, 0, 0, []), (.nop, 0, 0, []), (.nop, 0, 0, []), (.nop, 0, 0, []), (.nop, 0, 0, []), (.nop, 0, 0, []), (.nop, 0, 0, []), (.nop, 0, 0, []), (.nop, 0, 0, []), (.nop, 0, 0, []), (.nop, 0, 0, []), (.nop, 0, 0, []), (.nop, 0, 0, []), (.nop, 0, 0, []), (.nop, 0, 0, []), (.iload_n 1, 1, 68, [1]), (.ireturn, 1, 69, [0])]
noncomputable def zx_c9 : List zx_RI := [(.aload_n 0, 1, 1, [0]), (.iload_n 1, 1, 2, [1]), (.invokevirtual 120, 3, 5, [2, 2, 11, 24, 0, 0, 919, 921, 32, 116, 2, 1, 0]), (.nop, 0, 0, []), (.nop, 0, 0, []), (.ifCond .ne 6, 3, 8, [11]), (.nop, 0, 0, []), (.nop, 0, 0, []), (.bipush (-2), 2, 10, [4294967294]), (.nop, 0, 0, []), (.ireturn, 1, 11, [0])]
noncomputable def zx_c10 : List zx_RI := [(.aload_n 0, 1, 1, [0]), (.iload_n 1, 1, 2, [1]), (.invokevirtual 144, 3, 5, [2, 2, 11, 25, 0, 0, 936, 938, 33, 116, 2, 1, 0]), (.nop, 0, 0, []), (.nop, 0, 0, []), (.ifCond .eq 16, 3, 8, [21]), (.nop, 0, 0, []), (.nop, 0, 0, []), (.nop, 0, 0, []), (.nop, 0, 0, []), (.nop, 0, 0, []), (.nop, 0, 0, []), (.nop, 0, 0, []), (.nop, 0, 0, []), (.nop, 0, 0, []), (.nop, 0, 0, []), (.nop, 0, 0, []), (.nop, 0, 0, []), (.nop, 0, 0, []), (.nop, 0, 0, []), (.nop, 0, 0, []), (.iconst (-1), 1, 22, [4294967295]), (.ireturn, 1, 23, [0])]
noncomputable def zx_c11 : List zx_RI := [(.iload_n 0, 1, 1, [0]), (.istore_n 2, 1, 2, [2]), (.iload_n 1, 1, 3, [1]), (.istore_n 3, 1, 4, [3]), (.iconst 0, 1, 5, [0]), (.istore 4, 2, 7, [4]), (.nop, 0, 0, []), (.iload 4, 2, 9, [4]), (.nop, 0, 0, []), (.bipush 64, 2, 11, [64]), (.nop, 0, 0, []), (.if_icmp .ge 23, 3, 14, [34]), (.nop, 0, 0, []), (.nop, 0, 0, []), (.iload_n 3, 1, 15, [3]), (.ifCond .eq 19, 3, 18, [34]), (.nop, 0, 0, []), (.nop, 0, 0, []), (.iload_n 2, 1, 19, [2]), (.iload_n 3, 1, 20, [3]), (.irem, 1, 21, []), (.istore 5, 2, 23, [5]), (.nop, 0, 0, []), (.iload_n 3, 1, 24, [3]), (.istore_n 2, 1, 25, [2]), (.iload 5, 2, 27, [5]), (.nop, 0, 0, []), (.istore_n 3, 1, 28, [3]), (.iinc 4 1, 3, 31, [4, 1]), (.nop, 0, 0, []), (.nop, 0, 0, []), (.goto (-24), 3, 34, [7]), (.nop, 0, 0, []), (.nop, 0, 0, []), (.iload_n 2, 1, 35, [2]), (.ireturn, 1, 36, [0])]
noncomputable def zx_c12 : List zx_RI := [(.aload_n 0, 1, 1, [0]), (.getfield 39, 3, 4, [0, 11, 5, 635]), (.nop, 0, 0, []), (.nop, 0, 0, []), (.invokevirtual 270, 3, 7, [2, 2, 6, 89, 0, 0, 1229, 977, 978, 125, 1, 0]), (.nop, 0, 0, []), (.nop, 0, 0, []), (.istore_n 1, 1, 8, [1]), (.iload_n 1, 1, 9, [1]), (.iload_n 1, 1, 10, [1]), (.iconst 1, 1, 11, [1]), (.ishr, 1, 12, []), (.iand, 1, 13, []), (.invokestatic 281, 3, 16, [2, 0, 0, 189, 0, 0, 1248, 1249, 0, 136, 1, 0]), (.nop, 0, 0, []), (.nop, 0, 0, []), (.ireturn, 1, 17, [0])]
noncomputable def zx_c13 : List zx_RI := [(.iload_n 1, 1, 1, [1]), (.ifCond .lt 11, 3, 4, [12]), (.nop, 0, 0, []), (.nop, 0, 0, []), (.iload_n 1, 1, 5, [1]), (.aload_n 0, 1, 6, [0]), (.getfield 13, 3, 9, [0, 11, 1, 631]), (.nop, 0, 0, []), (.nop, 0, 0, []), (.if_icmp .le 5, 3, 12, [14]), (.nop, 0, 0, []), (.nop, 0, 0, []), (.iconst (-1), 1, 13, [4294967295]), (.ireturn, 1, 14, [0]), (.aload_n 0, 1, 15, [0]), (.iload_n 1, 1, 16, [1]), (.putfield 13, 3, 19, [11, 1, 0, 631]), (.nop, 0, 0, []), (.nop, 0, 0, []), (.iload_n 1, 1, 20, [1]), (.ireturn, 1, 21, [0])]
noncomputable def zx_c14 : List zx_RI := [(.aload_n 0, 1, 1, [0]), (.iload_n 1, 1, 2, [1]), (.invokevirtual 144, 3, 5, [2, 2, 11, 25, 0, 0, 936, 938, 33, 116, 2, 1, 0]), (.nop, 0, 0, []), (.nop, 0, 0, []), (.ifCond .eq 14, 3, 8, [19]), (.nop, 0, 0, []), (.nop, 0, 0, []), (.nop, 0, 0, []), (.nop, 0, 0, []), (.nop, 0, 0, []), (.nop, 0, 0, []), (.nop, 0, 0, []), (.nop, 0, 0, []), (.nop, 0, 0, []), (.nop, 0, 0, []), (.nop, 0, 0, []), (.nop, 0, 0, []), (.nop, 0, 0, []), (.iconst (-1), 1, 20, [4294967295]), (.ireturn, 1, 21, [0])]
noncomputable def zx_c15 : List zx_RI := [(.iload_n 1, 1, 1, [1]), (.ifCond .ne 11, 3, 4, [12]), (.nop, 0, 0, []), (.nop, 0, 0, []), (.aload_n 0, 1, 5, [0]), (.getfield 20, 3, 8, [0, 11, 2, 632]), (.nop, 0, 0, []), (.nop, 0, 0, []), (.getfield 114, 3, 11, [0, 4, 0, 246]), (.nop, 0, 0, []), (.nop, 0, 0, []), (.ireturn, 1, 12, [0]), (.iload_n 1, 1, 13, [1]), (.iconst 1, 1, 14, [1]), (.if_icmp .ne 13, 3, 17, [27]), (.nop, 0, 0, []), (.nop, 0, 0, []), (.aload_n 0, 1, 18, [0]), (.getfield 20, 3, 21, [0, 11, 2, 632]), (.nop, 0, 0, []), (.nop, 0, 0, []), (.getfield 117, 3, 24, [0, 4, 1, 248]), (.nop, 0, 0, []), (.nop, 0, 0, []), (.goto 4, 3, 27, [28]), (.nop, 0, 0, []), (.nop, 0, 0, []), (.iconst (-1), 1, 28, [4294967295]), (.ireturn, 1, 29, [0])]
noncomputable def zx_c16 : List zx_RI := [(.aload_n 0, 1, 1, [0]), (.getfield 13, 3, 4, [0, 11, 1, 631]), (.nop, 0, 0, []), (.nop, 0, 0, []), (.sipush 1580, 3, 7, [1580]), (.nop, 0, 0, []), (.nop, 0, 0, []), (.if_icmp .le 5, 3, 10, [12]), (.nop, 0, 0, []), (.nop, 0, 0, []), (.nop, 0, 0, []), (.nop, 0, 0, []), (.aload_n 0, 1, 13, [0]), (.iload_n 1, 1, 14, [1]), (.invokevirtual 104, 3, 17, [2, 2, 11, 36, 0, 0, 683, 685, 4, 116, 3, 1, 0]), (.nop, 0, 0, []), (.nop, 0, 0, []), (.aload_n 0, 1, 18, [0]), (.iload_n 2, 1, 19, [2]), (.invokevirtual 104, 3, 22, [2, 2, 11, 36, 0, 0, 683, 685, 4, 116, 3, 1, 0]), (.nop, 0, 0, []), (.nop, 0, 0, []), (.aload_n 0, 1, 23, [0]), (.iload_n 3, 1, 24, [3]), (.invokevirtual 104, 3, 27, [2, 2, 11, 36, 0, 0, 683, 685, 4, 116, 3, 1, 0]), (.nop, 0, 0, []), (.nop, 0, 0, []), (.aload_n 0, 1, 28, [0]), (.iload 4, 2, 30, [4]), (.nop, 0, 0, []), (.invokevirtual 104, 3, 33, [2, 2, 11, 36, 0, 0, 683, 685, 4, 116, 3, 1, 0]), (.nop, 0, 0, []), (.nop, 0, 0, []), (.aload_n 0, 1, 34, [0]), (.iload 5, 2, 36, [5]), (.nop, 0, 0, []), (.invokevirtual 104, 3, 39, [2, 2, 11, 36, 0, 0, 683, 685, 4, 116, 3, 1, 0]), (.nop, 0, 0, []), (.nop, 0, 0, []), (.aload_n 0, 1, 40, [0]), (.getfield 13, 3, 43, [0, 11, 1, 631]), (.nop, 0, 0, []), (.nop, 0, 0, []), (.ireturn, 1, 44, [0])]
noncomputable def zx_c17 : List zx_RI := [(.aload_n 0, 1, 1, [0]), (.iload_n 1, 1, 2, [1]), (.invokevirtual 144, 3, 5, [2, 2, 11, 25, 0, 0, 936, 938, 33, 116, 2, 1, 0]), (.nop, 0, 0, []), (.nop, 0, 0, []), (.ifCond .eq 29, 3, 8, [34]), (.nop, 0, 0, []), (.nop, 0, 0, []), (.nop, 0, 0, []), (.nop, 0, 0, []), (.nop, 0, 0, []), (.nop, 0, 0, []), (.nop, 0, 0, []), (.nop, 0, 0, []), (.nop, 0, 0, []), (.nop, 0, 0, []), (.nop, 0, 0, []), (.nop, 0, 0, []), (.nop, 0, 0, []), (.nop, 0, 0, []), (.nop, 0, 0, []), (.nop, 0, 0, []), (.nop, 0, 0, []), (.nop, 0, 0, []), (.nop, 0, 0, []), (.nop, 0, 0, []), (.nop, 0, 0, []), (.nop, 0, 0, []), (.nop, 0, 0, []), (.nop, 0, 0, []), (.nop, 0, 0, []), (.nop, 0, 0, []), (.nop, 0, 0, []), (.nop, 0, 0, []), (.iconst (-1), 1, 35, [4294967295]), (.ireturn, 1, 36, [0])]
noncomputable def zx_c18 : List zx_RI := [(.iconst (-1), 1, 1, [4294967295]), (.istore_n 2, 1, 2, [2]), (.iconst 0, 1, 3, [0]), (.istore_n 3, 1, 4, [3]), (.iload_n 3, 1, 5, [3]), (.iload_n 1, 1, 6, [1]), (.if_icmp .ge 31, 3, 9, [37]), (.nop, 0, 0, []), (.nop, 0, 0, []), (.iload_n 3, 1, 10, [3]), (.aload_n 0, 1, 11, [0]), (.arraylength, 1, 12, []), (.if_icmp .ge 25, 3, 15, [37]), (.nop, 0, 0, []), (.nop, 0, 0, []), (.iload_n 2, 1, 16, [2]), (.iconst (-1), 1, 17, [4294967295]), (.if_icmp .eq 12, 3, 20, [29]), (.nop, 0, 0, []), (.nop, 0, 0, []), (.aload_n 0, 1, 21, [0]), (.iload_n 3, 1, 22, [3]), (.iaload, 1, 23, []), (.aload_n 0, 1, 24, [0]), (.iload_n 2, 1, 25, [2]), (.iaload, 1, 26, []), (.if_icmp .le 5, 3, 29, [31]), (.nop, 0, 0, []), (.nop, 0, 0, []), (.iload_n 3, 1, 30, [3]), (.istore_n 2, 1, 31, [2]), (.iinc 3 1, 3, 34, [3, 1]), (.nop, 0, 0, []), (.nop, 0, 0, []), (.goto (-30), 3, 37, [4]), (.nop, 0, 0, []), (.nop, 0, 0, []), (.iload_n 2, 1, 38, [2]), (.ireturn, 1, 39, [0])]
noncomputable def zx_c19 : List zx_RI := [(.aload_n 0, 1, 1, [0]), (.getfield 90, 3, 4, [0, 11, 13, 643]), (.nop, 0, 0, []), (.nop, 0, 0, []), (.iload_n 1, 1, 5, [1]), (.invokevirtual 305, 3, 8, [2, 2, 2, 64, 0, 0, 1314, 1315, 1316, 132, 4, 1, 0]), (.nop, 0, 0, []), (.nop, 0, 0, []), (.invokestatic 281, 3, 11, [2, 0, 0, 189, 0, 0, 1248, 1249, 0, 136, 1, 0]), (.nop, 0, 0, []), (.nop, 0, 0, []), (.ireturn, 1, 12, [0])]
noncomputable def zx_c20 : List zx_RI := [(.iconst 0, 1, 1, [0]), (.istore_n 1, 1, 2, [1]), (.iconst 0, 1, 3, [0]), (.istore_n 2, 1, 4, [2]), (.iconst 0, 1, 5, [0]), (.istore_n 3, 1, 6, [3]), (.iload_n 3, 1, 7, [3]), (.aload_n 0, 1, 8, [0]), (.getfield 27, 3, 11, [0, 11, 3, 633]), (.nop, 0, 0, []), (.nop, 0, 0, []), (.getfield 244, 3, 14, [0, 10, 0, 307]), (.nop, 0, 0, []), (.nop, 0, 0, []), (.if_icmp .ge 34, 3, 17, [48]), (.nop, 0, 0, []), (.nop, 0, 0, []), (.nop, 0, 0, []), (.nop, 0, 0, []), (.nop, 0, 0, []), (.nop, 0, 0, []), (.nop, 0, 0, []), (.nop, 0, 0, []), (.nop, 0, 0, []), (.nop, 0, 0, []), (.nop, 0, 0, []), (.nop, 0, 0, []), (.nop, 0, 0, []), (.nop, 0, 0, []), (.nop, 0, 0, []), (.nop, 0, 0, []), (.nop, 0, 0, []), (.nop, 0, 0, []), (.nop, 0, 0, []), (.nop, 0, 0, []), (.nop, 0, 0, []), (.nop, 0, 0, []), (.nop, 0, 0, []), (.nop, 0, 0, []), (.nop, 0, 0, []), (.nop, 0, 0, []), (.nop, 0, 0, []), (.nop, 0, 0, []), (.nop, 0, 0, []), (.nop, 0, 0, []), (.nop, 0, 0, []), (.nop, 0, 0, []), (.nop, 0, 0, []), (.iload_n 1, 1, 49, [1]), (.ireturn, 1, 50, [0])]
noncomputable def zx_c21 : List zx_RI := [(.aload_n 0, 1, 1, [0]), (.iload_n 1, 1, 2, [1]), (.invokevirtual 144, 3, 5, [2, 2, 11, 25, 0, 0, 936, 938, 33, 116, 2, 1, 0]), (.nop, 0, 0, []), (.nop, 0, 0, []), (.ifCond .eq 11, 3, 8, [16]), (.nop, 0, 0, []), (.nop, 0, 0, []), (.nop, 0, 0, []), (.nop, 0, 0, []), (.nop, 0, 0, []), (.nop, 0, 0, []), (.nop, 0, 0, []), (.nop, 0, 0, []), (.nop, 0, 0, []), (.nop, 0, 0, []), (.iconst (-1), 1, 17, [4294967295]), (.ireturn, 1, 18, [0])]
noncomputable def zx_c22 : List zx_RI := [(.aload_n 0, 1, 1, [0]), (.getfield 39, 3, 4, [0, 11, 5, 635]), (.nop, 0, 0, []), (.nop, 0, 0, []), (.getfield 165, 3, 7, [0, 6, 7, 392]), (.nop, 0, 0, []), (.nop, 0, 0, []), (.sipush 999, 3, 10, [999]), (.nop, 0, 0, []), (.nop, 0, 0, []), (.if_icmp .lt 5, 3, 13, [15]), (.nop, 0, 0, []), (.nop, 0, 0, []), (.nop, 0, 0, []), (.nop, 0, 0, []), (.aload_n 0, 1, 16, [0]), (.getfield 39, 3, 19, [0, 11, 5, 635]), (.nop, 0, 0, []), (.nop, 0, 0, []), (.iconst 1, 1, 20, [1]), (.invokevirtual 168, 3, 23, [2, 2, 6, 87, 0, 0, 968, 969, 970, 125, 4, 1, 0]), (.nop, 0, 0, []), (.nop, 0, 0, []), (.istore_n 1, 1, 24, [1]), (.aload_n 0, 1, 25, [0]), (.getfield 49, 3, 28, [0, 11, 7, 637]), (.nop, 0, 0, []), (.nop, 0, 0, []), (.aload_n 0, 1, 29, [0]), (.getfield 39, 3, 32, [0, 11, 5, 635]), (.nop, 0, 0, []), (.nop, 0, 0, []), (.invokevirtual 172, 3, 35, [2, 2, 5, 77, 0, 0, 998, 999, 1000, 126, 2, 1, 0]), (.nop, 0, 0, []), (.nop, 0, 0, []), (.iload_n 1, 1, 36, [1]), (.ireturn, 1, 37, [0])]
noncomputable def zx_c23 : List zx_RI := [(.iload_n 1, 1, 1, [1]), (.ifCond .lt 8, 3, 4, [9]), (.nop, 0, 0, []), (.nop, 0, 0, []), (.iload_n 1, 1, 5, [1]), (.iconst 3, 1, 6, [3]), (.if_icmp .lt 5, 3, 9, [11]), (.nop, 0, 0, []), (.nop, 0, 0, []), (.iconst (-1), 1, 10, [4294967295]), (.ireturn, 1, 11, [0]), (.aload_n 0, 1, 12, [0]), (.getfield 58, 3, 15, [0, 11, 8, 638]), (.nop, 0, 0, []), (.nop, 0, 0, []), (.iload_n 1, 1, 16, [1]), (.aload_n 0, 1, 17, [0]), (.getfield 39, 3, 20, [0, 11, 5, 635]), (.nop, 0, 0, []), (.nop, 0, 0, []), (.invokevirtual 317, 3, 23, [2, 2, 8, 101, 0, 0, 1349, 594, 595, 127, 3, 2, 1, 0]), (.nop, 0, 0, []), (.nop, 0, 0, []), (.aload_n 0, 1, 24, [0]), (.getfield 62, 3, 27, [0, 11, 9, 639]), (.nop, 0, 0, []), (.nop, 0, 0, []), (.iload_n 1, 1, 28, [1]), (.iconst 1, 1, 29, [1]), (.bastore, 1, 30, []), (.aload_n 0, 1, 31, [0]), (.getfield 39, 3, 34, [0, 11, 5, 635]), (.nop, 0, 0, []), (.nop, 0, 0, []), (.getfield 165, 3, 37, [0, 6, 7, 392]), (.nop, 0, 0, []), (.nop, 0, 0, []), (.ireturn, 1, 38, [0])]
noncomputable def zx_c24 : List zx_RI := [(.iload_n 1, 1, 1, [1]), (.ifCond .lt 23, 3, 4, [24]), (.nop, 0, 0, []), (.nop, 0, 0, []), (.iload_n 1, 1, 5, [1]), (.aload_n 0, 1, 6, [0]), (.getfield 27, 3, 9, [0, 11, 3, 633]), (.nop, 0, 0, []), (.nop, 0, 0, []), (.getfield 244, 3, 12, [0, 10, 0, 307]), (.nop, 0, 0, []), (.nop, 0, 0, []), (.if_icmp .ge 12, 3, 15, [24]), (.nop, 0, 0, []), (.nop, 0, 0, []), (.nop, 0, 0, []), (.nop, 0, 0, []), (.nop, 0, 0, []), (.nop, 0, 0, []), (.nop, 0, 0, []), (.nop, 0, 0, []), (.nop, 0, 0, []), (.nop, 0, 0, []), (.nop, 0, 0, []), (.iconst 0, 1, 25, [0]), (.ireturn, 1, 26, [1])]
noncomputable def zx_c25 : List zx_RI := [(.iload_n 1, 1, 1, [1]), (.ifCond .lt 23, 3, 4, [24]), (.nop, 0, 0, []), (.nop, 0, 0, []), (.iload_n 1, 1, 5, [1]), (.aload_n 0, 1, 6, [0]), (.getfield 27, 3, 9, [0, 11, 3, 633]), (.nop, 0, 0, []), (.nop, 0, 0, []), (.getfield 111, 3, 12, [0, 10, 1, 310]), (.nop, 0, 0, []), (.nop, 0, 0, []), (.if_icmp .ge 12, 3, 15, [24]), (.nop, 0, 0, []), (.nop, 0, 0, []), (.nop, 0, 0, []), (.nop, 0, 0, []), (.nop, 0, 0, []), (.nop, 0, 0, []), (.nop, 0, 0, []), (.nop, 0, 0, []), (.nop, 0, 0, []), (.nop, 0, 0, []), (.nop, 0, 0, []), (.iconst 0, 1, 25, [0]), (.ireturn, 1, 26, [1])]
noncomputable def zx_c26 : List zx_RI := [(.aload_n 0, 1, 1, [0]), (.getfield 90, 3, 4, [0, 11, 13, 643]), (.nop, 0, 0, []), (.nop, 0, 0, []), (.iload_n 1, 1, 5, [1]), (.invokevirtual 302, 3, 8, [2, 2, 2, 65, 0, 0, 1305, 1306, 1307, 132, 2, 1, 0]), (.nop, 0, 0, []), (.nop, 0, 0, []), (.ireturn, 1, 9, [0])]
noncomputable def zx_c27 : List zx_RI := [(.iload_n 1, 1, 1, [1]), (.ifCond .lt 9, 3, 4, [10]), (.nop, 0, 0, []), (.nop, 0, 0, []), (.iload_n 1, 1, 5, [1]), (.bipush 99, 2, 7, [99]), (.nop, 0, 0, []), (.if_icmp .le 5, 3, 10, [12]), (.nop, 0, 0, []), (.nop, 0, 0, []), (.iconst (-1), 1, 11, [4294967295]), (.ireturn, 1, 12, [0]), (.aload_n 0, 1, 13, [0]), (.getfield 39, 3, 16, [0, 11, 5, 635]), (.nop, 0, 0, []), (.nop, 0, 0, []), (.invokevirtual 270, 3, 19, [2, 2, 6, 89, 0, 0, 1229, 977, 978, 125, 1, 0]), (.nop, 0, 0, []), (.nop, 0, 0, []), (.istore_n 2, 1, 20, [2]), (.iconst 0, 1, 21, [0]), (.istore_n 3, 1, 22, [3]), (.iconst 0, 1, 23, [0]), (.istore 4, 2, 25, [4]), (.nop, 0, 0, []), (.iload 4, 2, 27, [4]), (.nop, 0, 0, []), (.aload_n 0, 1, 28, [0]), (.getfield 27, 3, 31, [0, 11, 3, 633]), (.nop, 0, 0, []), (.nop, 0, 0, []), (.getfield 111, 3, 34, [0, 10, 1, 310]), (.nop, 0, 0, []), (.nop, 0, 0, []), (.if_icmp .ge 52, 3, 37, [86]), (.nop, 0, 0, []), (.nop, 0, 0, []), (.nop, 0, 0, []), (.nop, 0, 0, []), (.nop, 0, 0, []), (.nop, 0, 0, []), (.nop, 0, 0, []), (.nop, 0, 0, []), (.nop, 0, 0, []), (.nop, 0, 0, []), (.nop, 0, 0, []), (.nop, 0, 0, []), (.nop, 0, 0, []), (.nop, 0, 0, []), (.nop, 0, 0, []), (.nop, 0, 0, []), (.nop, 0, 0, []), (.nop, 0, 0, []), (.nop, 0, 0, []), (.nop, 0, 0, []), (.nop, 0, 0, []), (.nop, 0, 0, []), (.nop, 0, 0, []), (.nop, 0, 0, []), (.nop, 0, 0, []), (.nop, 0, 0, []), (.nop, 0, 0, []), (.nop, 0, 0, []), (.nop, 0, 0, []), (.nop, 0, 0, []), (.nop, 0, 0, []), (.nop, 0, 0, []), (.nop, 0, 0, []), (.nop, 0, 0, []), (.nop, 0, 0, []), (.nop, 0, 0, []), (.nop, 0, 0, []), (.nop, 0, 0, []), (.nop, 0, 0, []), (.nop, 0, 0, []), (.nop, 0, 0, []), (.nop, 0, 0, []), (.nop, 0, 0, []), (.nop, 0, 0, []), (.nop, 0, 0, []), (.nop, 0, 0, []), (.nop, 0, 0, []), (.nop, 0, 0, []), (.nop, 0, 0, []), (.nop, 0, 0, []), (.nop, 0, 0, []), (.iload_n 3, 1, 87, [3]), (.ireturn, 1, 88, [0])]
noncomputable def zx_c28 : List zx_RI := [(.aload_n 0, 1, 1, [0]), (.iconst 0, 1, 2, [0]), (.putfield 98, 3, 5, [11, 15, 0, 645]), (.nop, 0, 0, []), (.nop, 0, 0, []), (.iconst 0, 1, 6, [0]), (.istore_n 1, 1, 7, [1]), (.iload_n 1, 1, 8, [1]), (.aload_n 0, 1, 9, [0]), (.getfield 27, 3, 12, [0, 11, 3, 633]), (.nop, 0, 0, []), (.nop, 0, 0, []), (.getfield 111, 3, 15, [0, 10, 1, 310]), (.nop, 0, 0, []), (.nop, 0, 0, []), (.if_icmp .ge 22, 3, 18, [37]), (.nop, 0, 0, []), (.nop, 0, 0, []), (.nop, 0, 0, []), (.nop, 0, 0, []), (.nop, 0, 0, []), (.nop, 0, 0, []), (.nop, 0, 0, []), (.nop, 0, 0, []), (.nop, 0, 0, []), (.nop, 0, 0, []), (.nop, 0, 0, []), (.nop, 0, 0, []), (.nop, 0, 0, []), (.nop, 0, 0, []), (.nop, 0, 0, []), (.nop, 0, 0, []), (.nop, 0, 0, []), (.nop, 0, 0, []), (.nop, 0, 0, []), (.nop, 0, 0, []), (.nop, 0, 0, []), (.return_, 1, 38, [])]
noncomputable def zx_c29 : List zx_RI := [(.iload_n 1, 1, 1, [1]), (.ifCond .lt 29, 3, 4, [30]), (.nop, 0, 0, []), (.nop, 0, 0, []), (.iload_n 1, 1, 5, [1]), (.aload_n 0, 1, 6, [0]), (.getfield 98, 3, 9, [0, 11, 15, 645]), (.nop, 0, 0, []), (.nop, 0, 0, []), (.if_icmp .ge 21, 3, 12, [30]), (.nop, 0, 0, []), (.nop, 0, 0, []), (.nop, 0, 0, []), (.nop, 0, 0, []), (.nop, 0, 0, []), (.nop, 0, 0, []), (.nop, 0, 0, []), (.nop, 0, 0, []), (.nop, 0, 0, []), (.nop, 0, 0, []), (.nop, 0, 0, []), (.nop, 0, 0, []), (.nop, 0, 0, []), (.nop, 0, 0, []), (.nop, 0, 0, []), (.nop, 0, 0, []), (.nop, 0, 0, []), (.nop, 0, 0, []), (.nop, 0, 0, []), (.nop, 0, 0, []), (.bipush (-2), 2, 32, [4294967294]), (.nop, 0, 0, []), (.ireturn, 1, 33, [0])]
noncomputable def zx_c30 : List zx_RI := [(.aload_n 0, 1, 1, [0]), (.getfield 39, 3, 4, [0, 11, 5, 635]), (.nop, 0, 0, []), (.nop, 0, 0, []), (.invokevirtual 270, 3, 7, [2, 2, 6, 89, 0, 0, 1229, 977, 978, 125, 1, 0]), (.nop, 0, 0, []), (.nop, 0, 0, []), (.istore_n 1, 1, 8, [1]), (.iconst 0, 1, 9, [0]), (.istore_n 2, 1, 10, [2]), (.iconst 0, 1, 11, [0]), (.istore_n 3, 1, 12, [3]), (.iload_n 3, 1, 13, [3]), (.aload_n 0, 1, 14, [0]), (.getfield 27, 3, 17, [0, 11, 3, 633]), (.nop, 0, 0, []), (.nop, 0, 0, []), (.getfield 111, 3, 20, [0, 10, 1, 310]), (.nop, 0, 0, []), (.nop, 0, 0, []), (.if_icmp .ge 42, 3, 23, [62]), (.nop, 0, 0, []), (.nop, 0, 0, []), (.nop, 0, 0, []), (.nop, 0, 0, []), (.nop, 0, 0, []), (.nop, 0, 0, []), (.nop, 0, 0, []), (.nop, 0, 0, []), (.nop, 0, 0, []), (.nop, 0, 0, []), (.nop, 0, 0, []), (.nop, 0, 0, []), (.nop, 0, 0, []), (.nop, 0, 0, []), (.nop, 0, 0, []), (.nop, 0, 0, []), (.nop, 0, 0, []), (.nop, 0, 0, []), (.nop, 0, 0, []), (.nop, 0, 0, []), (.nop, 0, 0, []), (.nop, 0, 0, []), (.nop, 0, 0, []), (.nop, 0, 0, []), (.nop, 0, 0, []), (.nop, 0, 0, []), (.nop, 0, 0, []), (.nop, 0, 0, []), (.nop, 0, 0, []), (.nop, 0, 0, []), (.nop, 0, 0, []), (.nop, 0, 0, []), (.nop, 0, 0, []), (.nop, 0, 0, []), (.nop, 0, 0, []), (.nop, 0, 0, []), (.nop, 0, 0, []), (.nop, 0, 0, []), (.nop, 0, 0, []), (.nop, 0, 0, []), (.nop, 0, 0, []), (.iload_n 2, 1, 63, [2]), (.ireturn, 1, 64, [0])]
noncomputable def zx_c31 : List zx_RI := [(.aload_n 0, 1, 1, [0]), (.iload_n 1, 1, 2, [1]), (.invokevirtual 120, 3, 5, [2, 2, 11, 24, 0, 0, 919, 921, 32, 116, 2, 1, 0]), (.nop, 0, 0, []), (.nop, 0, 0, []), (.ifCond .eq 24, 3, 8, [29]), (.nop, 0, 0, []), (.nop, 0, 0, []), (.nop, 0, 0, []), (.nop, 0, 0, []), (.nop, 0, 0, []), (.nop, 0, 0, []), (.nop, 0, 0, []), (.nop, 0, 0, []), (.nop, 0, 0, []), (.nop, 0, 0, []), (.nop, 0, 0, []), (.nop, 0, 0, []), (.nop, 0, 0, []), (.nop, 0, 0, []), (.nop, 0, 0, []), (.nop, 0, 0, []), (.nop, 0, 0, []), (.nop, 0, 0, []), (.nop, 0, 0, []), (.nop, 0, 0, []), (.nop, 0, 0, []), (.nop, 0, 0, []), (.nop, 0, 0, []), (.iconst (-1), 1, 30, [4294967295]), (.ireturn, 1, 31, [0])]
noncomputable def zx_c32 : List zx_RI := [(.aload_n 0, 1, 1, [0]), (.iload_n 1, 1, 2, [1]), (.invokevirtual 144, 3, 5, [2, 2, 11, 25, 0, 0, 936, 938, 33, 116, 2, 1, 0]), (.nop, 0, 0, []), (.nop, 0, 0, []), (.ifCond .eq 11, 3, 8, [16]), (.nop, 0, 0, []), (.nop, 0, 0, []), (.nop, 0, 0, []), (.nop, 0, 0, []), (.nop, 0, 0, []), (.nop, 0, 0, []), (.nop, 0, 0, []), (.nop, 0, 0, []), (.nop, 0, 0, []), (.nop, 0, 0, []), (.iconst (-1), 1, 17, [4294967295]), (.ireturn, 1, 18, [0])]
noncomputable def zx_c33 : List zx_RI := [(.iload_n 1, 1, 1, [1]), (.ifCond .lt 17, 3, 4, [18]), (.nop, 0, 0, []), (.nop, 0, 0, []), (.iload_n 1, 1, 5, [1]), (.iconst 4, 1, 6, [4]), (.if_icmp .gt 12, 3, 9, [18]), (.nop, 0, 0, []), (.nop, 0, 0, []), (.iload_n 2, 1, 10, [2]), (.ifCond .lt 8, 3, 13, [18]), (.nop, 0, 0, []), (.nop, 0, 0, []), (.iload_n 2, 1, 14, [2]), (.iconst 1, 1, 15, [1]), (.if_icmp .le 5, 3, 18, [20]), (.nop, 0, 0, []), (.nop, 0, 0, []), (.iconst (-1), 1, 19, [4294967295]), (.ireturn, 1, 20, [0]), (.iconst 1, 1, 21, [1]), (.istore_n 3, 1, 22, [3]), (.iconst 1, 1, 23, [1]), (.istore 4, 2, 25, [4]), (.nop, 0, 0, []), (.iconst 0, 1, 26, [0]), (.istore 5, 2, 28, [5]), (.nop, 0, 0, []), (.iload 5, 2, 30, [5]), (.nop, 0, 0, []), (.iload_n 1, 1, 31, [1]), (.if_icmp .ge 29, 3, 34, [60]), (.nop, 0, 0, []), (.nop, 0, 0, []), (.iload_n 3, 1, 35, [3]), (.bipush 100, 2, 37, [100]), (.nop, 0, 0, []), (.aload_n 0, 1, 38, [0]), (.getfield 27, 3, 41, [0, 11, 3, 633]), (.nop, 0, 0, []), (.nop, 0, 0, []), (.getfield 289, 3, 44, [0, 10, 2, 316]), (.nop, 0, 0, []), (.nop, 0, 0, []), (.isub, 1, 45, []), (.imul, 1, 46, []), (.istore_n 3, 1, 47, [3]), (.iload 4, 2, 49, [4]), (.nop, 0, 0, []), (.bipush 100, 2, 51, [100]), (.nop, 0, 0, []), (.imul, 1, 52, []), (.istore 4, 2, 54, [4]), (.nop, 0, 0, []), (.iinc 5 1, 3, 57, [5, 1]), (.nop, 0, 0, []), (.nop, 0, 0, []), (.goto (-29), 3, 60, [28]), (.nop, 0, 0, []), (.nop, 0, 0, []), (.iload_n 3, 1, 61, [3]), (.iload 4, 2, 63, [4]), (.nop, 0, 0, []), (.invokestatic 292, 3, 66, [2, 0, 11, 11, 0, 0, 1278, 1279, 0, 116, 6, 1, 0]), (.nop, 0, 0, []), (.nop, 0, 0, []), (.istore 5, 2, 68, [5]), (.nop, 0, 0, []), (.iload_n 2, 1, 69, [2]), (.ifCond .ne 7, 3, 72, [76]), (.nop, 0, 0, []), (.nop, 0, 0, []), (.iload_n 3, 1, 73, [3]), (.goto 5, 3, 76, [78]), (.nop, 0, 0, []), (.nop, 0, 0, []), (.iload 4, 2, 78, [4]), (.nop, 0, 0, []), (.istore 6, 2, 80, [6]), (.nop, 0, 0, []), (.iload 5, 2, 82, [5]), (.nop, 0, 0, []), (.ifCond .le 11, 3, 85, [93]), (.nop, 0, 0, []), (.nop, 0, 0, []), (.iload 6, 2, 87, [6]), (.nop, 0, 0, []), (.iload 5, 2, 89, [5]), (.nop, 0, 0, []), (.idiv, 1, 90, []), (.goto 5, 3, 93, [95]), (.nop, 0, 0, []), (.nop, 0, 0, []), (.nop, 0, 0, []), (.nop, 0, 0, []), (.ireturn, 1, 96, [0])]
noncomputable def zx_c34 : List zx_RI := [(.aload_n 0, 1, 1, [0]), (.iconst 0, 1, 2, [0]), (.putfield 98, 3, 5, [11, 15, 0, 645]), (.nop, 0, 0, []), (.nop, 0, 0, []), (.aload_n 0, 1, 6, [0]), (.iload_n 1, 1, 7, [1]), (.invokevirtual 120, 3, 10, [2, 2, 11, 24, 0, 0, 919, 921, 32, 116, 2, 1, 0]), (.nop, 0, 0, []), (.nop, 0, 0, []), (.ifCond .ne 5, 3, 13, [15]), (.nop, 0, 0, []), (.nop, 0, 0, []), (.iconst (-1), 1, 14, [4294967295]), (.ireturn, 1, 15, [0])]
noncomputable def zx_c35 : List zx_RI := [(.aload_n 0, 1, 1, [0]), (.iload_n 1, 1, 2, [1]), (.invokevirtual 144, 3, 5, [2, 2, 11, 25, 0, 0, 936, 938, 33, 116, 2, 1, 0]), (.nop, 0, 0, []), (.nop, 0, 0, []), (.ifCond .ne 5, 3, 8, [10]), (.nop, 0, 0, []), (.nop, 0, 0, []), (.iconst (-1), 1, 9, [4294967295]), (.ireturn, 1, 10, [0])]
noncomputable def zx_c36 : List zx_RI := [(.bipush 24, 2, 2, [24]), (.nop, 0, 0, []), (.istore_n 2, 1, 3, [2]), (.iload_n 2, 1, 4, [2]), (.ifCond .lt 44, 3, 7, [48]), (.nop, 0, 0, []), (.nop, 0, 0, []), (.aload_n 0, 1, 8, [0]), (.getfield 13, 3, 11, [0, 11, 1, 631]), (.nop, 0, 0, []), (.nop, 0, 0, []), (.aload_n 0, 1, 12, [0]), (.getfield 9, 3, 15, [0, 11, 0, 630]), (.nop, 0, 0, []), (.nop, 0, 0, []), (.arraylength, 1, 16, []), (.if_icmp .ge 32, 3, 19, [48]), (.nop, 0, 0, []), (.nop, 0, 0, []), (.aload_n 0, 1, 20, [0]), (.getfield 9, 3, 23, [0, 11, 0, 630]), (.nop, 0, 0, []), (.nop, 0, 0, []), (.aload_n 0, 1, 24, [0]), (.getfield 13, 3, 27, [0, 11, 1, 631]), (.nop, 0, 0, []), (.nop, 0, 0, []), (.iload_n 1, 1, 28, [1]), (.iload_n 2, 1, 29, [2]), (.ishr, 1, 30, []), (.i2b, 1, 31, []), (.bastore, 1, 32, []), (.aload_n 0, 1, 33, [0]), (.dup, 1, 34, []), (.getfield 13, 3, 37, [0, 11, 1, 631]), (.nop, 0, 0, []), (.nop, 0, 0, []), (.iconst 1, 1, 38, [1]), (.iadd, 1, 39, []), (.putfield 13, 3, 42, [11, 1, 0, 631]), (.nop, 0, 0, []), (.nop, 0, 0, []), (.iinc 2 (-8), 3, 45, [2, 4294967288]), (.nop, 0, 0, []), (.nop, 0, 0, []), (.goto (-42), 3, 48, [3]), (.nop, 0, 0, []), (.nop, 0, 0, []), (.return_, 1, 49, [])]
noncomputable def zx_c37 : List zx_RI := [(.aload_n 0, 1, 1, [0]), (.getfield 49, 3, 4, [0, 11, 7, 637]), (.nop, 0, 0, []), (.nop, 0, 0, []), (.aload_n 0, 1, 5, [0]), (.getfield 39, 3, 8, [0, 11, 5, 635]), (.nop, 0, 0, []), (.nop, 0, 0, []), (.invokevirtual 205, 3, 11, [2, 2, 5, 79, 0, 0, 1069, 1070, 1071, 126, 2, 1, 0]), (.nop, 0, 0, []), (.nop, 0, 0, []), (.ireturn, 1, 12, [1])]
noncomputable def zx_c38 : List zx_RI := [(.aload_n 0, 1, 1, [0]), (.getfield 39, 3, 4, [0, 11, 5, 635]), (.nop, 0, 0, []), (.nop, 0, 0, []), (.getfield 150, 3, 7, [0, 6, 5, 388]), (.nop, 0, 0, []), (.nop, 0, 0, []), (.aload_n 0, 1, 8, [0]), (.getfield 27, 3, 11, [0, 11, 3, 633]), (.nop, 0, 0, []), (.nop, 0, 0, []), (.getfield 111, 3, 14, [0, 10, 1, 310]), (.nop, 0, 0, []), (.nop, 0, 0, []), (.invokestatic 277, 3, 17, [2, 0, 11, 18, 0, 0, 1243, 466, 0, 116, 4, 1, 0]), (.nop, 0, 0, []), (.nop, 0, 0, []), (.ireturn, 1, 18, [0])]
noncomputable def zx_c39 : List zx_RI := [(.aload_n 0, 1, 1, [0]), (.getfield 76, 3, 4, [0, 11, 11, 641]), (.nop, 0, 0, []), (.nop, 0, 0, []), (.aload_n 0, 1, 5, [0]), (.getfield 39, 3, 8, [0, 11, 5, 635]), (.nop, 0, 0, []), (.nop, 0, 0, []), (.invokevirtual 240, 3, 11, [2, 2, 7, 94, 0, 0, 1176, 1177, 1178, 130, 5, 1, 0]), (.nop, 0, 0, []), (.nop, 0, 0, []), (.istore_n 1, 1, 12, [1]), (.aload_n 0, 1, 13, [0]), (.invokevirtual 222, 3, 16, [2, 2, 11, 28, 0, 0, 1130, 1132, 41, 116, 2, 0]), (.nop, 0, 0, []), (.nop, 0, 0, []), (.iload_n 1, 1, 17, [1]), (.ireturn, 1, 18, [0])]
noncomputable def zx_c40 : List zx_RI := [(.aload_n 0, 1, 1, [0]), (.iload_n 1, 1, 2, [1]), (.invokevirtual 144, 3, 5, [2, 2, 11, 25, 0, 0, 936, 938, 33, 116, 2, 1, 0]), (.nop, 0, 0, []), (.nop, 0, 0, []), (.ifCond .eq 14, 3, 8, [19]), (.nop, 0, 0, []), (.nop, 0, 0, []), (.nop, 0, 0, []), (.nop, 0, 0, []), (.nop, 0, 0, []), (.nop, 0, 0, []), (.nop, 0, 0, []), (.nop, 0, 0, []), (.nop, 0, 0, []), (.nop, 0, 0, []), (.nop, 0, 0, []), (.nop, 0, 0, []), (.nop, 0, 0, []), (.iconst (-1), 1, 20, [4294967295]), (.ireturn, 1, 21, [0])]
noncomputable def zx_c41 : List zx_RI := [(.aload_n 0, 1, 1, [0]), (.iconst 0, 1, 2, [0]), (.putfield 98, 3, 5, [11, 15, 0, 645]), (.nop, 0, 0, []), (.nop, 0, 0, []), (.aload_n 0, 1, 6, [0]), (.iload_n 1, 1, 7, [1]), (.invokevirtual 144, 3, 10, [2, 2, 11, 25, 0, 0, 936, 938, 33, 116, 2, 1, 0]), (.nop, 0, 0, []), (.nop, 0, 0, []), (.ifCond .eq 16, 3, 13, [26]), (.nop, 0, 0, []), (.nop, 0, 0, []), (.nop, 0, 0, []), (.nop, 0, 0, []), (.nop, 0, 0, []), (.nop, 0, 0, []), (.nop, 0, 0, []), (.nop, 0, 0, []), (.nop, 0, 0, []), (.nop, 0, 0, []), (.nop, 0, 0, []), (.nop, 0, 0, []), (.nop, 0, 0, []), (.nop, 0, 0, []), (.nop, 0, 0, []), (.iconst (-1), 1, 27, [4294967295]), (.ireturn, 1, 28, [0])]
noncomputable def zx_c42 : List zx_RI := [(.aload_n 0, 1, 1, [0]), (.iload_n 1, 1, 2, [1]), (.invokevirtual 120, 3, 5, [2, 2, 11, 24, 0, 0, 919, 921, 32, 116, 2, 1, 0]), (.nop, 0, 0, []), (.nop, 0, 0, []), (.ifCond .eq 11, 3, 8, [16]), (.nop, 0, 0, []), (.nop, 0, 0, []), (.nop, 0, 0, []), (.nop, 0, 0, []), (.nop, 0, 0, []), (.nop, 0, 0, []), (.nop, 0, 0, []), (.nop, 0, 0, []), (.nop, 0, 0, []), (.nop, 0, 0, []), (.iconst (-1), 1, 17, [4294967295]), (.ireturn, 1, 18, [0])]
noncomputable def zx_c43 : List zx_RI := [(.aload_n 0, 1, 1, [0]), (.getfield 76, 3, 4, [0, 11, 11, 641]), (.nop, 0, 0, []), (.nop, 0, 0, []), (.aload_n 0, 1, 5, [0]), (.getfield 39, 3, 8, [0, 11, 5, 635]), (.nop, 0, 0, []), (.nop, 0, 0, []), (.iconst (-1), 1, 9, [4294967295]), (.invokevirtual 218, 3, 12, [2, 2, 7, 97, 0, 0, 1098, 1099, 1100, 130, 5, 2, 1, 0]), (.nop, 0, 0, []), (.nop, 0, 0, []), (.istore_n 1, 1, 13, [1]), (.aload_n 0, 1, 14, [0]), (.invokevirtual 222, 3, 17, [2, 2, 11, 28, 0, 0, 1130, 1132, 41, 116, 2, 0]), (.nop, 0, 0, []), (.nop, 0, 0, []), (.iload_n 1, 1, 18, [1]), (.ireturn, 1, 19, [0])]
noncomputable def zx_c44 : List zx_RI := [(.aload_n 0, 1, 1, [0]), (.getfield 27, 3, 4, [0, 11, 3, 633]), (.nop, 0, 0, []), (.nop, 0, 0, []), (.getfield 111, 3, 7, [0, 10, 1, 310]), (.nop, 0, 0, []), (.nop, 0, 0, []), (.ifCond .eq 21, 3, 10, [28]), (.nop, 0, 0, []), (.nop, 0, 0, []), (.nop, 0, 0, []), (.nop, 0, 0, []), (.nop, 0, 0, []), (.nop, 0, 0, []), (.nop, 0, 0, []), (.nop, 0, 0, []), (.nop, 0, 0, []), (.nop, 0, 0, []), (.nop, 0, 0, []), (.nop, 0, 0, []), (.nop, 0, 0, []), (.nop, 0, 0, []), (.nop, 0, 0, []), (.nop, 0, 0, []), (.nop, 0, 0, []), (.nop, 0, 0, []), (.nop, 0, 0, []), (.nop, 0, 0, []), (.iconst (-1), 1, 29, [4294967295]), (.ireturn, 1, 30, [0])]
noncomputable def zx_c45 : List zx_RI := [(.aload_n 0, 1, 1, [0]), (.iload_n 1, 1, 2, [1]), (.invokevirtual 144, 3, 5, [2, 2, 11, 25, 0, 0, 936, 938, 33, 116, 2, 1, 0]), (.nop, 0, 0, []), (.nop, 0, 0, []), (.ifCond .eq 33, 3, 8, [38]), (.nop, 0, 0, []), (.nop, 0, 0, []), (.nop, 0, 0, []), (.nop, 0, 0, []), (.nop, 0, 0, []), (.nop, 0, 0, []), (.nop, 0, 0, []), (.nop, 0, 0, []), (.nop, 0, 0, []), (.nop, 0, 0, []), (.nop, 0, 0, []), (.nop, 0, 0, []), (.nop, 0, 0, []), (.nop, 0, 0, []), (.nop, 0, 0, []), (.nop, 0, 0, []), (.nop, 0, 0, []), (.nop, 0, 0, []), (.nop, 0, 0, []), (.nop, 0, 0, []), (.nop, 0, 0, []), (.nop, 0, 0, []), (.nop, 0, 0, []), (.nop, 0, 0, []), (.nop, 0, 0, []), (.nop, 0, 0, []), (.nop, 0, 0, []), (.nop, 0, 0, []), (.nop, 0, 0, []), (.nop, 0, 0, []), (.nop, 0, 0, []), (.nop, 0, 0, []), (.iconst (-1), 1, 39, [4294967295]), (.ireturn, 1, 40, [0])]
noncomputable def zx_c46 : List zx_RI := [(.aload_n 0, 1, 1, [0]), (.iload_n 1, 1, 2, [1]), (.invokevirtual 144, 3, 5, [2, 2, 11, 25, 0, 0, 936, 938, 33, 116, 2, 1, 0]), (.nop, 0, 0, []), (.nop, 0, 0, []), (.ifCond .ne 6, 3, 8, [11]), (.nop, 0, 0, []), (.nop, 0, 0, []), (.bipush (-2), 2, 10, [4294967294]), (.nop, 0, 0, []), (.ireturn, 1, 11, [0])]
noncomputable def zx_c47 : List zx_RI := [(.iload_n 1, 1, 1, [1]), (.ifCond .lt 9, 3, 4, [10]), (.nop, 0, 0, []), (.nop, 0, 0, []), (.iload_n 1, 1, 5, [1]), (.bipush 60, 2, 7, [60]), (.nop, 0, 0, []), (.if_icmp .le 5, 3, 10, [12]), (.nop, 0, 0, []), (.nop, 0, 0, []), (.iconst (-1), 1, 11, [4294967295]), (.ireturn, 1, 12, [0]), (.aload_n 0, 1, 13, [0]), (.iload_n 1, 1, 14, [1]), (.iconst 1, 1, 15, [1]), (.invokevirtual 208, 3, 18, [2, 2, 11, 50, 0, 0, 1077, 1079, 36, 116, 4, 2, 1, 0]), (.nop, 0, 0, []), (.nop, 0, 0, []), (.aload_n 0, 1, 19, [0]), (.getfield 43, 3, 22, [0, 11, 6, 636]), (.nop, 0, 0, []), (.nop, 0, 0, []), (.invokevirtual 212, 3, 25, [2, 2, 6, 86, 0, 0, 1089, 994, 995, 125, 3, 0]), (.nop, 0, 0, []), (.nop, 0, 0, []), (.ireturn, 1, 26, [0])]
noncomputable def zx_c48 : List zx_RI := [(.aload_n 0, 1, 1, [0]), (.getfield 90, 3, 4, [0, 11, 13, 643]), (.nop, 0, 0, []), (.nop, 0, 0, []), (.iload_n 2, 1, 5, [2]), (.invokevirtual 305, 3, 8, [2, 2, 2, 64, 0, 0, 1314, 1315, 1316, 132, 4, 1, 0]), (.nop, 0, 0, []), (.nop, 0, 0, []), (.istore_n 3, 1, 9, [3]), (.iload_n 3, 1, 10, [3]), (.ifCond .eq 12, 3, 13, [22]), (.nop, 0, 0, []), (.nop, 0, 0, []), (.nop, 0, 0, []), (.nop, 0, 0, []), (.nop, 0, 0, []), (.nop, 0, 0, []), (.nop, 0, 0, []), (.nop, 0, 0, []), (.nop, 0, 0, []), (.nop, 0, 0, []), (.nop, 0, 0, []), (.iconst (-1), 1, 23, [4294967295]), (.ireturn, 1, 24, [0])]
noncomputable def zx_c49 : List zx_RI := [(.iconst 0, 1, 1, [0]), (.istore_n 1, 1, 2, [1]), (.iconst 0, 1, 3, [0]), (.istore_n 2, 1, 4, [2]), (.iload_n 2, 1, 5, [2]), (.aload_n 0, 1, 6, [0]), (.getfield 27, 3, 9, [0, 11, 3, 633]), (.nop, 0, 0, []), (.nop, 0, 0, []), (.getfield 111, 3, 12, [0, 10, 1, 310]), (.nop, 0, 0, []), (.nop, 0, 0, []), (.if_icmp .ge 21, 3, 15, [33]), (.nop, 0, 0, []), (.nop, 0, 0, []), (.nop, 0, 0, []), (.nop, 0, 0, []), (.nop, 0, 0, []), (.nop, 0, 0, []), (.nop, 0, 0, []), (.nop, 0, 0, []), (.nop, 0, 0, []), (.nop, 0, 0, []), (.nop, 0, 0, []), (.nop, 0, 0, []), (.nop, 0, 0, []), (.nop, 0, 0, []), (.nop, 0, 0, []), (.nop, 0, 0, []), (.nop, 0, 0, []), (.nop, 0, 0, []), (.nop, 0, 0, []), (.nop, 0, 0, []), (.iload_n 1, 1, 34, [1]), (.ireturn, 1, 35, [0])]
noncomputable def zx_c50 : List zx_RI := [(.aload_n 0, 1, 1, [0]), (.getfield 43, 3, 4, [0, 11, 6, 636]), (.nop, 0, 0, []), (.nop, 0, 0, []), (.aload_n 0, 1, 5, [0]), (.getfield 39, 3, 8, [0, 11, 5, 635]), (.nop, 0, 0, []), (.nop, 0, 0, []), (.invokevirtual 215, 3, 11, [2, 2, 6, 84, 0, 0, 1081, 1082, 1083, 125, 2, 1, 0]), (.nop, 0, 0, []), (.nop, 0, 0, []), (.iconst 0, 1, 12, [0]), (.istore_n 3, 1, 13, [3]), (.iload_n 3, 1, 14, [3]), (.iload_n 1, 1, 15, [1]), (.if_icmp .ge 18, 3, 18, [33]), (.nop, 0, 0, []), (.nop, 0, 0, []), (.aload_n 0, 1, 19, [0]), (.getfield 43, 3, 22, [0, 11, 6, 636]), (.nop, 0, 0, []), (.nop, 0, 0, []), (.iload_n 2, 1, 23, [2]), (.invokevirtual 168, 3, 26, [2, 2, 6, 87, 0, 0, 968, 969, 970, 125, 4, 1, 0]), (.nop, 0, 0, []), (.nop, 0, 0, []), (.pop, 1, 27, []), (.iinc 3 1, 3, 30, [3, 1]), (.nop, 0, 0, []), (.nop, 0, 0, []), (.goto (-17), 3, 33, [13]), (.nop, 0, 0, []), (.nop, 0, 0, []), (.return_, 1, 34, [])]
noncomputable def zx_c51 : List zx_RI := [(.aload_n 0, 1, 1, [0]), (.getfield 39, 3, 4, [0, 11, 5, 635]), (.nop, 0, 0, []), (.nop, 0, 0, []), (.getfield 127, 3, 7, [0, 6, 2, 381]), (.nop, 0, 0, []), (.nop, 0, 0, []), (.aload_n 0, 1, 8, [0]), (.getfield 27, 3, 11, [0, 11, 3, 633]), (.nop, 0, 0, []), (.nop, 0, 0, []), (.getfield 244, 3, 14, [0, 10, 0, 307]), (.nop, 0, 0, []), (.nop, 0, 0, []), (.invokestatic 277, 3, 17, [2, 0, 11, 18, 0, 0, 1243, 466, 0, 116, 4, 1, 0]), (.nop, 0, 0, []), (.nop, 0, 0, []), (.ireturn, 1, 18, [0])]
noncomputable def zx_c52 : List zx_RI := [(.aload_n 0, 1, 1, [0]), (.iload_n 1, 1, 2, [1]), (.invokevirtual 144, 3, 5, [2, 2, 11, 25, 0, 0, 936, 938, 33, 116, 2, 1, 0]), (.nop, 0, 0, []), (.nop, 0, 0, []), (.ifCond .ne 5, 3, 8, [10]), (.nop, 0, 0, []), (.nop, 0, 0, []), (.iconst (-1), 1, 9, [4294967295]), (.ireturn, 1, 10, [0])]
noncomputable def zx_c53 : List zx_RI := [(.iload_n 1, 1, 1, [1]), (.ifCond .lt 8, 3, 4, [9]), (.nop, 0, 0, []), (.nop, 0, 0, []), (.iload_n 1, 1, 5, [1]), (.iconst 2, 1, 6, [2]), (.if_icmp .le 5, 3, 9, [11]), (.nop, 0, 0, []), (.nop, 0, 0, []), (.iconst (-1), 1, 10, [4294967295]), (.ireturn, 1, 11, [0]), (.aload_n 0, 1, 12, [0]), (.getfield 39, 3, 15, [0, 11, 5, 635]), (.nop, 0, 0, []), (.nop, 0, 0, []), (.invokevirtual 189, 3, 18, [2, 2, 6, 91, 0, 0, 1033, 1034, 1035, 125, 4, 0]), (.nop, 0, 0, []), (.nop, 0, 0, []), (.istore_n 2, 1, 19, [2]), (.iconst (-1), 1, 20, [4294967295]), (.istore_n 3, 1, 21, [3]), (.iconst (-1), 1, 22, [4294967295]), (.istore 4, 2, 24, [4]), (.nop, 0, 0, []), (.iconst 0, 1, 25, [0]), (.istore 5, 2, 27, [5]), (.nop, 0, 0, []), (.iload 5, 2, 29, [5]), (.nop, 0, 0, []), (.aload_n 0, 1, 30, [0]), (.getfield 27, 3, 33, [0, 11, 3, 633]), (.nop, 0, 0, []), (.nop, 0, 0, []), (.getfield 111, 3, 36, [0, 10, 1, 310]), (.nop, 0, 0, []), (.nop, 0, 0, []), (.if_icmp .ge 59, 3, 39, [95]), (.nop, 0, 0, []), (.nop, 0, 0, []), (.nop, 0, 0, []), (.nop, 0, 0, []), (.nop, 0, 0, []), (.nop, 0, 0, []), (.nop, 0, 0, []), (.nop, 0, 0, []), (.nop, 0, 0, []), (.nop, 0, 0, []), (.nop, 0, 0, []), (.nop, 0, 0, []), (.nop, 0, 0, []), (.nop, 0, 0, []), (.nop, 0, 0, []), (.nop, 0, 0, []), (.nop, 0, 0, []), (.nop, 0, 0, []), (.nop, 0, 0, []), (.nop, 0, 0, []), (.nop, 0, 0, []), (.nop, 0, 0, []), (.nop, 0, 0, []), (.nop, 0, 0, []), (.nop, 0, 0, []), (.nop, 0, 0, []), (.nop, 0, 0, []), (.nop, 0, 0, []), (.nop, 0, 0, []), (.nop, 0, 0, []), (.nop, 0, 0, []), (.nop, 0, 0, []), (.nop, 0, 0, []), (.nop, 0, 0, []), (.nop, 0, 0, []), (.nop, 0, 0, []), (.nop, 0, 0, []), (.nop, 0, 0, []), (.nop, 0, 0, []), (.nop, 0, 0, []), (.nop, 0, 0, []), (.nop, 0, 0, []), (.nop, 0, 0, []), (.nop, 0, 0, []), (.nop, 0, 0, []), (.nop, 0, 0, []), (.nop, 0, 0, []), (.nop, 0, 0, []), (.nop, 0, 0, []), (.nop, 0, 0, []), (.nop, 0, 0, []), (.nop, 0, 0, []), (.nop, 0, 0, []), (.nop, 0, 0, []), (.nop, 0, 0, []), (.nop, 0, 0, []), (.nop, 0, 0, []), (.nop, 0, 0, []), (.iload_n 3, 1, 96, [3]), (.iconst (-1), 1, 97, [4294967295]), (.if_icmp .eq 7, 3, 100, [104]), (.nop, 0, 0, []), (.nop, 0, 0, []), (.nop, 0, 0, []), (.nop, 0, 0, []), (.nop, 0, 0, []), (.nop, 0, 0, []), (.iload_n 3, 1, 105, [3]), (.ireturn, 1, 106, [0])]
noncomputable def zx_c54 : List zx_RI := [(.aload_n 0, 1, 1, [0]), (.getfield 49, 3, 4, [0, 11, 7, 637]), (.nop, 0, 0, []), (.nop, 0, 0, []), (.aload_n 0, 1, 5, [0]), (.getfield 39, 3, 8, [0, 11, 5, 635]), (.nop, 0, 0, []), (.nop, 0, 0, []), (.invokevirtual 201, 3, 11, [2, 2, 5, 78, 0, 0, 1053, 1054, 1055, 126, 2, 1, 0]), (.nop, 0, 0, []), (.nop, 0, 0, []), (.ireturn, 1, 12, [1])]
noncomputable def zx_c55 : List zx_RI := [(.aload_n 0, 1, 1, [0]), (.getfield 90, 3, 4, [0, 11, 13, 643]), (.nop, 0, 0, []), (.nop, 0, 0, []), (.iload_n 1, 1, 5, [1]), (.invokevirtual 299, 3, 8, [2, 2, 2, 66, 0, 0, 1297, 1298, 1299, 132, 2, 1, 0]), (.nop, 0, 0, []), (.nop, 0, 0, []), (.ireturn, 1, 9, [1])]
noncomputable def zx_c56 : List zx_RI := [(.iconst (-1), 1, 1, [4294967295]), (.istore_n 1, 1, 2, [1]), (.iconst 0, 1, 3, [0]), (.istore_n 2, 1, 4, [2]), (.iload_n 2, 1, 5, [2]), (.aload_n 0, 1, 6, [0]), (.getfield 27, 3, 9, [0, 11, 3, 633]), (.nop, 0, 0, []), (.nop, 0, 0, []), (.getfield 111, 3, 12, [0, 10, 1, 310]), (.nop, 0, 0, []), (.nop, 0, 0, []), (.if_icmp .ge 48, 3, 15, [60]), (.nop, 0, 0, []), (.nop, 0, 0, []), (.nop, 0, 0, []), (.nop, 0, 0, []), (.nop, 0, 0, []), (.nop, 0, 0, []), (.nop, 0, 0, []), (.nop, 0, 0, []), (.nop, 0, 0, []), (.nop, 0, 0, []), (.nop, 0, 0, []), (.nop, 0, 0, []), (.nop, 0, 0, []), (.nop, 0, 0, []), (.nop, 0, 0, []), (.nop, 0, 0, []), (.nop, 0, 0, []), (.nop, 0, 0, []), (.nop, 0, 0, []), (.nop, 0, 0, []), (.nop, 0, 0, []), (.nop, 0, 0, []), (.nop, 0, 0, []), (.nop, 0, 0, []), (.nop, 0, 0, []), (.nop, 0, 0, []), (.nop, 0, 0, []), (.nop, 0, 0, []), (.nop, 0, 0, []), (.nop, 0, 0, []), (.nop, 0, 0, []), (.nop, 0, 0, []), (.nop, 0, 0, []), (.nop, 0, 0, []), (.nop, 0, 0, []), (.nop, 0, 0, []), (.nop, 0, 0, []), (.nop, 0, 0, []), (.nop, 0, 0, []), (.nop, 0, 0, []), (.nop, 0, 0, []), (.nop, 0, 0, []), (.nop, 0, 0, []), (.nop, 0, 0, []), (.nop, 0, 0, []), (.nop, 0, 0, []), (.nop, 0, 0, []), (.iload_n 1, 1, 61, [1]), (.ireturn, 1, 62, [0])]
noncomputable def zx_c57 : List zx_RI := [(.aload_n 0, 1, 1, [0]), (.iload_n 1, 1, 2, [1]), (.invokevirtual 144, 3, 5, [2, 2, 11, 25, 0, 0, 936, 938, 33, 116, 2, 1, 0]), (.nop, 0, 0, []), (.nop, 0, 0, []), (.ifCond .eq 13, 3, 8, [18]), (.nop, 0, 0, []), (.nop, 0, 0, []), (.nop, 0, 0, []), (.nop, 0, 0, []), (.nop, 0, 0, []), (.nop, 0, 0, []), (.nop, 0, 0, []), (.nop, 0, 0, []), (.nop, 0, 0, []), (.nop, 0, 0, []), (.nop, 0, 0, []), (.nop, 0, 0, []), (.iconst (-1), 1, 19, [4294967295]), (.ireturn, 1, 20, [0])]
noncomputable def zx_c58 : List zx_RI := [(.iload_n 1, 1, 1, [1]), (.ifCond .ne 11, 3, 4, [12]), (.nop, 0, 0, []), (.nop, 0, 0, []), (.aload_n 0, 1, 5, [0]), (.getfield 69, 3, 8, [0, 11, 10, 640]), (.nop, 0, 0, []), (.nop, 0, 0, []), (.getfield 286, 3, 11, [0, 3, 0, 469]), (.nop, 0, 0, []), (.nop, 0, 0, []), (.ireturn, 1, 12, [0]), (.iload_n 1, 1, 13, [1]), (.iconst 1, 1, 14, [1]), (.if_icmp .ne 20, 3, 17, [34]), (.nop, 0, 0, []), (.nop, 0, 0, []), (.aload_n 0, 1, 18, [0]), (.getfield 69, 3, 21, [0, 11, 10, 640]), (.nop, 0, 0, []), (.nop, 0, 0, []), (.aload_n 0, 1, 22, [0]), (.getfield 69, 3, 25, [0, 11, 10, 640]), (.nop, 0, 0, []), (.nop, 0, 0, []), (.getfield 286, 3, 28, [0, 3, 0, 469]), (.nop, 0, 0, []), (.nop, 0, 0, []), (.invokevirtual 228, 3, 31, [2, 2, 3, 70, 0, 0, 1154, 1155, 1156, 129, 2, 1, 0]), (.nop, 0, 0, []), (.nop, 0, 0, []), (.goto 4, 3, 34, [35]), (.nop, 0, 0, []), (.nop, 0, 0, []), (.iconst (-1), 1, 35, [4294967295]), (.ireturn, 1, 36, [0])]
noncomputable def zx_c59 : List zx_RI := [(.aload_n 0, 1, 1, [0]), (.invokespecial 3, 3, 4, [0, 523]), (.nop, 0, 0, []), (.nop, 0, 0, []), (.aload_n 0, 1, 5, [0]), (.bipush 25, 2, 7, [25]), (.nop, 0, 0, []), (.newarray .int, 2, 9, []), (.nop, 0, 0, []), (.putfield 9, 3, 12, [0, 2, 2, 528]), (.nop, 0, 0, []), (.nop, 0, 0, []), (.aload_n 0, 1, 13, [0]), (.bipush 25, 2, 15, [25]), (.nop, 0, 0, []), (.newarray .int, 2, 17, []), (.nop, 0, 0, []), (.putfield 15, 3, 20, [0, 3, 2, 529]), (.nop, 0, 0, []), (.nop, 0, 0, []), (.return_, 1, 21, [])]
noncomputable def zx_c60 : List zx_RI := [(.aload_n 0, 1, 1, [0]), (.invokespecial 3, 3, 4, [0, 277]), (.nop, 0, 0, []), (.nop, 0, 0, []), (.aload_n 0, 1, 5, [0]), (.sipush 300, 3, 8, [300]), (.nop, 0, 0, []), (.nop, 0, 0, []), (.newarray .int, 2, 10, []), (.nop, 0, 0, []), (.putfield 11, 3, 13, [1, 3, 2, 284]), (.nop, 0, 0, []), (.nop, 0, 0, []), (.aload_n 0, 1, 14, [0]), (.sipush 300, 3, 17, [300]), (.nop, 0, 0, []), (.nop, 0, 0, []), (.newarray .int, 2, 19, []), (.nop, 0, 0, []), (.putfield 15, 3, 22, [1, 4, 2, 285]), (.nop, 0, 0, []), (.nop, 0, 0, []), (.aload_n 0, 1, 23, [0]), (.bipush 64, 2, 25, [64]), (.nop, 0, 0, []), (.newarray .int, 2, 27, []), (.nop, 0, 0, []), (.putfield 18, 3, 30, [1, 5, 2, 286]), (.nop, 0, 0, []), (.nop, 0, 0, []), (.aload_n 0, 1, 31, [0]), (.bipush 6, 2, 33, [6]), (.nop, 0, 0, []), (.newarray .int, 2, 35, []), (.nop, 0, 0, []), (.putfield 21, 3, 38, [1, 6, 2, 287]), (.nop, 0, 0, []), (.nop, 0, 0, []), (.return_, 1, 39, [])]
noncomputable def zx_c61 : List zx_RI := [(.aload_n 0, 1, 1, [0]), (.iconst 0, 1, 2, [0]), (.putfield 24, 3, 5, [1, 0, 1, 278]), (.nop, 0, 0, []), (.nop, 0, 0, []), (.aload_n 0, 1, 6, [0]), (.iconst 0, 1, 7, [0]), (.putfield 28, 3, 10, [1, 1, 0, 280]), (.nop, 0, 0, []), (.nop, 0, 0, []), (.aload_n 0, 1, 11, [0]), (.iconst 0, 1, 12, [0]), (.putfield 32, 3, 15, [1, 2, 0, 283]), (.nop, 0, 0, []), (.nop, 0, 0, []), (.return_, 1, 16, [])]
noncomputable def zx_c62 : List zx_RI := [(.aload_n 0, 1, 1, [0]), (.invokespecial 3, 3, 4, [0, 544]), (.nop, 0, 0, []), (.nop, 0, 0, []), (.aload_n 0, 1, 5, [0]), (.sipush 155, 3, 8, [155]), (.nop, 0, 0, []), (.nop, 0, 0, []), (.newarray .int, 2, 10, []), (.nop, 0, 0, []), (.putfield 11, 3, 13, [2, 4, 2, 551]), (.nop, 0, 0, []), (.nop, 0, 0, []), (.aload_n 0, 1, 14, [0]), (.bipush 30, 2, 16, [30]), (.nop, 0, 0, []), (.newarray .int, 2, 18, []), (.nop, 0, 0, []), (.putfield 15, 3, 21, [2, 5, 2, 552]), (.nop, 0, 0, []), (.nop, 0, 0, []), (.aload_n 0, 1, 22, [0]), (.bipush 30, 2, 24, [30]), (.nop, 0, 0, []), (.newarray .int, 2, 26, []), (.nop, 0, 0, []), (.putfield 18, 3, 29, [2, 6, 2, 553]), (.nop, 0, 0, []), (.nop, 0, 0, []), (.aload_n 0, 1, 30, [0]), (.bipush 30, 2, 32, [30]), (.nop, 0, 0, []), (.newarray .boolean, 2, 34, []), (.nop, 0, 0, []), (.putfield 21, 3, 37, [2, 7, 2, 554]), (.nop, 0, 0, []), (.nop, 0, 0, []), (.aload_n 0, 1, 38, [0]), (.bipush 30, 2, 40, [30]), (.nop, 0, 0, []), (.newarray .int, 2, 42, []), (.nop, 0, 0, []), (.putfield 25, 3, 45, [2, 8, 2, 555]), (.nop, 0, 0, []), (.nop, 0, 0, []), (.aload_n 0, 1, 46, [0]), (.bipush 30, 2, 48, [30]), (.nop, 0, 0, []), (.newarray .int, 2, 50, []), (.nop, 0, 0, []), (.putfield 28, 3, 53, [2, 9, 2, 556]), (.nop, 0, 0, []), (.nop, 0, 0, []), (.aload_n 0, 1, 54, [0]), (.bipush 100, 2, 56, [100]), (.nop, 0, 0, []), (.newarray .int, 2, 58, []), (.nop, 0, 0, []), (.putfield 31, 3, 61, [2, 10, 2, 557]), (.nop, 0, 0, []), (.nop, 0, 0, []), (.return_, 1, 62, [])]
noncomputable def zx_c63 : List zx_RI := [(.aload_n 0, 1, 1, [0]), (.iconst 0, 1, 2, [0]), (.putfield 34, 3, 5, [2, 0, 0, 545]), (.nop, 0, 0, []), (.nop, 0, 0, []), (.aload_n 0, 1, 6, [0]), (.aload_n 1, 1, 7, [1]), (.getfield 38, 3, 10, [0, 10, 0, 304]), (.nop, 0, 0, []), (.nop, 0, 0, []), (.putfield 43, 3, 13, [2, 2, 0, 549]), (.nop, 0, 0, []), (.nop, 0, 0, []), (.aload_n 0, 1, 14, [0]), (.aload_n 1, 1, 15, [1]), (.getfield 44, 3, 18, [0, 10, 1, 309]), (.nop, 0, 0, []), (.nop, 0, 0, []), (.putfield 47, 3, 21, [2, 3, 0, 550]), (.nop, 0, 0, []), (.nop, 0, 0, []), (.iconst 0, 1, 22, [0]), (.istore_n 2, 1, 23, [2]), (.iload_n 2, 1, 24, [2]), (.aload_n 0, 1, 25, [0]), (.getfield 43, 3, 28, [0, 2, 2, 549]), (.nop, 0, 0, []), (.nop, 0, 0, []), (.if_icmp .ge 52, 3, 31, [80]), (.nop, 0, 0, []), (.nop, 0, 0, []), (.nop, 0, 0, []), (.nop, 0, 0, []), (.nop, 0, 0, []), (.nop, 0, 0, []), (.nop, 0, 0, []), (.nop, 0, 0, []), (.nop, 0, 0, []), (.nop, 0, 0, []), (.nop, 0, 0, []), (.nop, 0, 0, []), (.nop, 0, 0, []), (.nop, 0, 0, []), (.nop, 0, 0, []), (.nop, 0, 0, []), (.nop, 0, 0, []), (.nop, 0, 0, []), (.nop, 0, 0, []), (.nop, 0, 0, []), (.nop, 0, 0, []), (.nop, 0, 0, []), (.nop, 0, 0, []), (.nop, 0, 0, []), (.nop, 0, 0, []), (.nop, 0, 0, []), (.nop, 0, 0, []), (.nop, 0, 0, []), (.nop, 0, 0, []), (.nop, 0, 0, []), (.nop, 0, 0, []), (.nop, 0, 0, []), (.nop, 0, 0, []), (.nop, 0, 0, []), (.nop, 0, 0, []), (.nop, 0, 0, []), (.nop, 0, 0, []), (.nop, 0, 0, []), (.nop, 0, 0, []), (.nop, 0, 0, []), (.nop, 0, 0, []), (.nop, 0, 0, []), (.nop, 0, 0, []), (.nop, 0, 0, []), (.nop, 0, 0, []), (.nop, 0, 0, []), (.nop, 0, 0, []), (.nop, 0, 0, []), (.nop, 0, 0, []), (.nop, 0, 0, []), (.nop, 0, 0, []), (.return_, 1, 81, [])]
noncomputable def zx_c64 : List zx_RI := [(.aload_n 0, 1, 1, [0]), (.getfield 47, 3, 4, [0, 2, 3, 550]), (.nop, 0, 0, []), (.nop, 0, 0, []), (.ifCond .ne 5, 3, 7, [9]), (.nop, 0, 0, []), (.nop, 0, 0, []), (.iconst 0, 1, 8, [0]), (.ireturn, 1, 9, [0])]
noncomputable def zx_c65 : List zx_RI := [(.iload_n 1, 1, 1, [1]), (.ifCond .lt 21, 3, 4, [22]), (.nop, 0, 0, []), (.nop, 0, 0, []), (.iload_n 1, 1, 5, [1]), (.sipush 1000, 3, 8, [1000]), (.nop, 0, 0, []), (.nop, 0, 0, []), (.if_icmp .gt 14, 3, 11, [22]), (.nop, 0, 0, []), (.nop, 0, 0, []), (.aload_n 0, 1, 12, [0]), (.getfield 61, 3, 15, [0, 2, 1, 547]), (.nop, 0, 0, []), (.nop, 0, 0, []), (.iload_n 1, 1, 16, [1]), (.iadd, 1, 17, []), (.ldc 64, 2, 19, [0, 100000, 1309]), (.nop, 0, 0, []), (.if_icmp .le 5, 3, 22, [24]), (.nop, 0, 0, []), (.nop, 0, 0, []), (.iconst (-1), 1, 23, [4294967295]), (.ireturn, 1, 24, [0]), (.aload_n 0, 1, 25, [0]), (.dup, 1, 26, []), (.getfield 61, 3, 29, [0, 2, 1, 547]), (.nop, 0, 0, []), (.nop, 0, 0, []), (.iload_n 1, 1, 30, [1]), (.iadd, 1, 31, []), (.putfield 61, 3, 34, [2, 1, 0, 547]), (.nop, 0, 0, []), (.nop, 0, 0, []), (.aload_n 0, 1, 35, [0]), (.getfield 61, 3, 38, [0, 2, 1, 547]), (.nop, 0, 0, []), (.nop, 0, 0, []), (.ireturn, 1, 39, [0])]
noncomputable def zx_c66 : List zx_RI := [(.iload_n 1, 1, 1, [1]), (.ifCond .lt 27, 3, 4, [28]), (.nop, 0, 0, []), (.nop, 0, 0, []), (.iload_n 1, 1, 5, [1]), (.aload_n 0, 1, 6, [0]), (.getfield 34, 3, 9, [0, 2, 0, 545]), (.nop, 0, 0, []), (.nop, 0, 0, []), (.if_icmp .ge 19, 3, 12, [28]), (.nop, 0, 0, []), (.nop, 0, 0, []), (.nop, 0, 0, []), (.nop, 0, 0, []), (.nop, 0, 0, []), (.nop, 0, 0, []), (.nop, 0, 0, []), (.nop, 0, 0, []), (.nop, 0, 0, []), (.nop, 0, 0, []), (.nop, 0, 0, []), (.nop, 0, 0, []), (.nop, 0, 0, []), (.nop, 0, 0, []), (.nop, 0, 0, []), (.nop, 0, 0, []), (.nop, 0, 0, []), (.nop, 0, 0, []), (.iconst 0, 1, 29, [0]), (.ireturn, 1, 30, [1])]
noncomputable def zx_c67 : List zx_RI := [(.aload_n 0, 1, 1, [0]), (.invokespecial 3, 3, 4, [0, 452]), (.nop, 0, 0, []), (.nop, 0, 0, []), (.aload_n 0, 1, 5, [0]), (.bipush 64, 2, 7, [64]), (.nop, 0, 0, []), (.newarray .int, 2, 9, []), (.nop, 0, 0, []), (.putfield 11, 3, 12, [3, 1, 2, 470]), (.nop, 0, 0, []), (.nop, 0, 0, []), (.iconst 0, 1, 13, [0]), (.istore_n 1, 1, 14, [1]), (.iload_n 1, 1, 15, [1]), (.bipush 64, 2, 17, [64]), (.nop, 0, 0, []), (.if_icmp .ge 16, 3, 20, [33]), (.nop, 0, 0, []), (.nop, 0, 0, []), (.aload_n 0, 1, 21, [0]), (.getfield 11, 3, 24, [0, 3, 1, 470]), (.nop, 0, 0, []), (.nop, 0, 0, []), (.iload_n 1, 1, 25, [1]), (.iconst (-1), 1, 26, [4294967295]), (.iastore, 1, 27, []), (.iinc 1 1, 3, 30, [1, 1]), (.nop, 0, 0, []), (.nop, 0, 0, []), (.goto (-16), 3, 33, [14]), (.nop, 0, 0, []), (.nop, 0, 0, []), (.aload_n 0, 1, 34, [0]), (.invokevirtual 15, 3, 37, [2, 2, 3, 69, 1, 64, 453, 455, 0, 129, 6, 0]), (.nop, 0, 0, []), (.nop, 0, 0, []), (.aload_n 0, 1, 38, [0]), (.aload_n 0, 1, 39, [0]), (.getfield 11, 3, 42, [0, 3, 1, 470]), (.nop, 0, 0, []), (.nop, 0, 0, []), (.bipush 64, 2, 44, [64]), (.nop, 0, 0, []), (.invokestatic 18, 3, 47, [3, 0, 11, 18, 0, 0, 0, 466, 0, 116, 4, 1, 0]), (.nop, 0, 0, []), (.nop, 0, 0, []), (.putfield 22, 3, 50, [3, 0, 0, 468]), (.nop, 0, 0, []), (.nop, 0, 0, []), (.return_, 1, 51, [])]
noncomputable def zx_c68 : List zx_RI := [(.iload_n 1, 1, 1, [1]), (.ifCond .lt 8, 3, 4, [9]), (.nop, 0, 0, []), (.nop, 0, 0, []), (.iload_n 1, 1, 5, [1]), (.iconst 3, 1, 6, [3]), (.if_icmp .lt 7, 3, 9, [13]), (.nop, 0, 0, []), (.nop, 0, 0, []), (.nop, 0, 0, []), (.nop, 0, 0, []), (.nop, 0, 0, []), (.nop, 0, 0, []), (.iload_n 0, 1, 14, [0]), (.iconst 4, 1, 15, [4]), (.iconst 2, 1, 16, [2]), (.iload_n 1, 1, 17, [1]), (.imul, 1, 18, []), (.isub, 1, 19, []), (.ishr, 1, 20, []), (.iconst 3, 1, 21, [3]), (.iand, 1, 22, []), (.ireturn, 1, 23, [0])]
noncomputable def zx_c69 : List zx_RI := [(.bipush 64, 2, 2, [64]), (.nop, 0, 0, []), (.newarray .int, 2, 4, []), (.nop, 0, 0, []), (.astore_n 1, 1, 5, [1]), (.iconst 1, 1, 6, [1]), (.istore_n 2, 1, 7, [2]), (.aload_n 1, 1, 8, [1]), (.iconst 0, 1, 9, [0]), (.iconst 0, 1, 10, [0]), (.iastore, 1, 11, []), (.aload_n 0, 1, 12, [0]), (.getfield 11, 3, 15, [0, 3, 1, 470]), (.nop, 0, 0, []), (.nop, 0, 0, []), (.iconst 0, 1, 16, [0]), (.iconst 0, 1, 17, [0]), (.iastore, 1, 18, []), (.iconst 0, 1, 19, [0]), (.istore_n 3, 1, 20, [3]), (.iload_n 3, 1, 21, [3]), (.iload_n 2, 1, 22, [2]), (.if_icmp .ge 83, 3, 25, [105]), (.nop, 0, 0, []), (.nop, 0, 0, []), (.iload_n 3, 1, 26, [3]), (.bipush 64, 2, 28, [64]), (.nop, 0, 0, []), (.if_icmp .ge 77, 3, 31, [105]), (.nop, 0, 0, []), (.nop, 0, 0, []), (.iconst 0, 1, 32, [0]), (.istore 4, 2, 34, [4]), (.nop, 0, 0, []), (.iload 4, 2, 36, [4]), (.nop, 0, 0, []), (.iconst 4, 1, 37, [4]), (.if_icmp .ge 62, 3, 40, [99]), (.nop, 0, 0, []), (.nop, 0, 0, []), (.aload_n 1, 1, 41, [1]), (.iload_n 3, 1, 42, [3]), (.iaload, 1, 43, []), (.iload 4, 2, 45, [4]), (.nop, 0, 0, []), (.iconst (-1), 1, 46, [4294967295]), (.invokestatic 26, 3, 49, [2, 0, 3, 71, 0, 0, 457, 458, 0, 129, 6, 2, 1, 0]), (.nop, 0, 0, []), (.nop, 0, 0, []), (.istore 5, 2, 51, [5]), (.nop, 0, 0, []), (.aload_n 0, 1, 52, [0]), (.getfield 11, 3, 55, [0, 3, 1, 470]), (.nop, 0, 0, []), (.nop, 0, 0, []), (.iload 5, 2, 57, [5]), (.nop, 0, 0, []), (.iaload, 1, 58, []), (.iconst (-1), 1, 59, [4294967295]), (.if_icmp .ne 34, 3, 62, [93]), (.nop, 0, 0, []), (.nop, 0, 0, []), (.iload_n 2, 1, 63, [2]), (.bipush 64, 2, 65, [64]), (.nop, 0, 0, []), (.if_icmp .ge 28, 3, 68, [93]), (.nop, 0, 0, []), (.nop, 0, 0, []), (.aload_n 0, 1, 69, [0]), (.getfield 11, 3, 72, [0, 3, 1, 470]), (.nop, 0, 0, []), (.nop, 0, 0, []), (.iload 5, 2, 74, [5]), (.nop, 0, 0, []), (.aload_n 0, 1, 75, [0]), (.getfield 11, 3, 78, [0, 3, 1, 470]), (.nop, 0, 0, []), (.nop, 0, 0, []), (.aload_n 1, 1, 79, [1]), (.iload_n 3, 1, 80, [3]), (.iaload, 1, 81, []), (.iaload, 1, 82, []), (.iconst 1, 1, 83, [1]), (.iadd, 1, 84, []), (.iastore, 1, 85, []), (.aload_n 1, 1, 86, [1]), (.iload_n 2, 1, 87, [2]), (.iload 5, 2, 89, [5]), (.nop, 0, 0, []), (.iastore, 1, 90, []), (.iinc 2 1, 3, 93, [2, 1]), (.nop, 0, 0, []), (.nop, 0, 0, []), (.iinc 4 1, 3, 96, [4, 1]), (.nop, 0, 0, []), (.nop, 0, 0, []), (.goto (-62), 3, 99, [34]), (.nop, 0, 0, []), (.nop, 0, 0, []), (.iinc 3 1, 3, 102, [3, 1]), (.nop, 0, 0, []), (.nop, 0, 0, []), (.goto (-82), 3, 105, [20]), (.nop, 0, 0, []), (.nop, 0, 0, []), (.return_, 1, 106, [])]
noncomputable def zx_c70 : List zx_RI := [(.iload_n 1, 1, 1, [1]), (.ifCond .lt 18, 3, 4, [19]), (.nop, 0, 0, []), (.nop, 0, 0, []), (.iload_n 1, 1, 5, [1]), (.bipush 64, 2, 7, [64]), (.nop, 0, 0, []), (.if_icmp .ge 12, 3, 10, [19]), (.nop, 0, 0, []), (.nop, 0, 0, []), (.aload_n 0, 1, 11, [0]), (.getfield 11, 3, 14, [0, 3, 1, 470]), (.nop, 0, 0, []), (.nop, 0, 0, []), (.iload_n 1, 1, 15, [1]), (.iaload, 1, 16, []), (.goto 4, 3, 19, [20]), (.nop, 0, 0, []), (.nop, 0, 0, []), (.nop, 0, 0, []), (.ireturn, 1, 21, [0])]
noncomputable def zx_c71 : List zx_RI := [(.iload_n 1, 1, 1, [1]), (.ifCond .lt 8, 3, 4, [9]), (.nop, 0, 0, []), (.nop, 0, 0, []), (.iload_n 1, 1, 5, [1]), (.iconst 4, 1, 6, [4]), (.if_icmp .lt 5, 3, 9, [11]), (.nop, 0, 0, []), (.nop, 0, 0, []), (.nop, 0, 0, []), (.nop, 0, 0, []), (.iconst 0, 1, 12, [0]), (.istore_n 3, 1, 13, [3]), (.iconst 0, 1, 14, [0]), (.istore 4, 2, 16, [4]), (.nop, 0, 0, []), (.iload 4, 2, 18, [4]), (.nop, 0, 0, []), (.iconst 3, 1, 19, [3]), (.if_icmp .ge 39, 3, 22, [58]), (.nop, 0, 0, []), (.nop, 0, 0, []), (.iload_n 0, 1, 23, [0]), (.iload 4, 2, 25, [4]), (.nop, 0, 0, []), (.invokestatic 38, 3, 28, [2, 0, 3, 68, 0, 0, 460, 461, 0, 129, 2, 1, 0]), (.nop, 0, 0, []), (.nop, 0, 0, []), (.iload_n 2, 1, 29, [2]), (.getstatic 41, 3, 32, [0, 463]), (.nop, 0, 0, []), (.nop, 0, 0, []), (.iload_n 1, 1, 33, [1]), (.iconst 3, 1, 34, [3]), (.imul, 1, 35, []), (.iload 4, 2, 37, [4]), (.nop, 0, 0, []), (.iadd, 1, 38, []), (.iaload, 1, 39, []), (.imul, 1, 40, []), (.iadd, 1, 41, []), (.iconst 3, 1, 42, [3]), (.iand, 1, 43, []), (.istore 5, 2, 45, [5]), (.nop, 0, 0, []), (.iload_n 3, 1, 46, [3]), (.iconst 4, 1, 47, [4]), (.imul, 1, 48, []), (.iload 5, 2, 50, [5]), (.nop, 0, 0, []), (.iadd, 1, 51, []), (.istore_n 3, 1, 52, [3]), (.iinc 4 1, 3, 55, [4, 1]), (.nop, 0, 0, []), (.nop, 0, 0, []), (.goto (-39), 3, 58, [16]), (.nop, 0, 0, []), (.nop, 0, 0, []), (.iload_n 3, 1, 59, [3]), (.ireturn, 1, 60, [0])]
noncomputable def zx_c72 : List zx_RI := [(.aload_n 0, 1, 1, [0]), (.invokespecial 3, 3, 4, [0, 150]), (.nop, 0, 0, []), (.nop, 0, 0, []), (.aload_n 0, 1, 5, [0]), (.new 9, 3, 8, [9, 8, 151, 152, 118]), (.nop, 0, 0, []), (.nop, 0, 0, []), (.dup, 1, 9, []), (.invokespecial 11, 3, 12, [2, 2, 9, 102, 4, 4819, 153, 154, 0, 118, 3, 0]), (.nop, 0, 0, []), (.nop, 0, 0, []), (.putfield 12, 3, 15, [4, 2, 2, 249]), (.nop, 0, 0, []), (.nop, 0, 0, []), (.aload_n 0, 1, 16, [0]), (.iconst 0, 1, 17, [0]), (.putfield 18, 3, 20, [4, 0, 0, 245]), (.nop, 0, 0, []), (.nop, 0, 0, []), (.aload_n 0, 1, 21, [0]), (.iconst (-1), 1, 22, [4294967295]), (.putfield 22, 3, 25, [4, 1, 0, 247]), (.nop, 0, 0, []), (.nop, 0, 0, []), (.return_, 1, 26, [])]
noncomputable def zx_c73 : List zx_RI := [(.aload_n 0, 1, 1, [0]), (.iload_n 1, 1, 2, [1]), (.putfield 48, 3, 5, [4, 3, 0, 250]), (.nop, 0, 0, []), (.nop, 0, 0, []), (.aload_n 0, 1, 6, [0]), (.aload_n 0, 1, 7, [0]), (.getfield 12, 3, 10, [0, 4, 2, 249]), (.nop, 0, 0, []), (.nop, 0, 0, []), (.iload_n 1, 1, 11, [1]), (.invokevirtual 51, 3, 14, [2, 2, 9, 104, 0, 0, 803, 804, 805, 118, 2, 1, 0]), (.nop, 0, 0, []), (.nop, 0, 0, []), (.putfield 42, 3, 17, [4, 4, 0, 251]), (.nop, 0, 0, []), (.nop, 0, 0, []), (.return_, 1, 18, [])]
noncomputable def zx_c74 : List zx_RI := [(.aload_n 0, 1, 1, [0]), (.iconst 0, 1, 2, [0]), (.putfield 18, 3, 5, [4, 0, 0, 245]), (.nop, 0, 0, []), (.nop, 0, 0, []), (.aload_n 0, 1, 6, [0]), (.iconst (-1), 1, 7, [4294967295]), (.putfield 22, 3, 10, [4, 1, 0, 247]), (.nop, 0, 0, []), (.nop, 0, 0, []), (.aload_n 0, 1, 11, [0]), (.aload_n 3, 1, 12, [3]), (.putfield 25, 3, 15, [4, 5, 2, 252]), (.nop, 0, 0, []), (.nop, 0, 0, []), (.aload_n 0, 1, 16, [0]), (.getfield 25, 3, 19, [0, 4, 5, 252]), (.nop, 0, 0, []), (.nop, 0, 0, []), (.invokevirtual 29, 3, 22, [2, 2, 10, 109, 0, 0, 699, 700, 701, 123, 1, 0]), (.nop, 0, 0, []), (.nop, 0, 0, []), (.aload_n 0, 1, 23, [0]), (.getfield 12, 3, 26, [0, 4, 2, 249]), (.nop, 0, 0, []), (.nop, 0, 0, []), (.aload_n 1, 1, 27, [1]), (.iload_n 2, 1, 28, [2]), (.invokevirtual 34, 3, 31, [2, 2, 9, 106, 0, 0, 707, 708, 709, 118, 6, 2, 1, 0]), (.nop, 0, 0, []), (.nop, 0, 0, []), (.aload_n 0, 1, 32, [0]), (.iconst 0, 1, 33, [0]), (.invokevirtual 38, 3, 36, [2, 2, 4, 73, 0, 0, 799, 801, 11, 117, 2, 1, 0]), (.nop, 0, 0, []), (.nop, 0, 0, []), (.iconst 0, 1, 37, [0]), (.istore 4, 2, 39, [4]), (.nop, 0, 0, []), (.iload 4, 2, 41, [4]), (.nop, 0, 0, []), (.sipush 1600, 3, 44, [1600]), (.nop, 0, 0, []), (.nop, 0, 0, []), (.if_icmp .ge 30, 3, 47, [74]), (.nop, 0, 0, []), (.nop, 0, 0, []), (.aload_n 0, 1, 48, [0]), (.getfield 18, 3, 51, [0, 4, 0, 245]), (.nop, 0, 0, []), (.nop, 0, 0, []), (.ifCond .ne 23, 3, 54, [74]), (.nop, 0, 0, []), (.nop, 0, 0, []), (.aload_n 0, 1, 55, [0]), (.getfield 42, 3, 58, [0, 4, 4, 251]), (.nop, 0, 0, []), (.nop, 0, 0, []), (.sipush 256, 3, 61, [256]), (.nop, 0, 0, []), (.nop, 0, 0, []), (.if_icmp .eq 13, 3, 64, [74]), (.nop, 0, 0, []), (.nop, 0, 0, []), (.nop, 0, 0, []), (.nop, 0, 0, []), (.nop, 0, 0, []), (.nop, 0, 0, []), (.nop, 0, 0, []), (.nop, 0, 0, []), (.nop, 0, 0, []), (.nop, 0, 0, []), (.nop, 0, 0, []), (.nop, 0, 0, []), (.aload_n 0, 1, 75, [0]), (.getfield 18, 3, 78, [0, 4, 0, 245]), (.nop, 0, 0, []), (.nop, 0, 0, []), (.ifCond .ne 7, 3, 81, [85]), (.nop, 0, 0, []), (.nop, 0, 0, []), (.iconst 1, 1, 82, [1]), (.goto 4, 3, 85, [86]), (.nop, 0, 0, []), (.nop, 0, 0, []), (.nop, 0, 0, []), (.ireturn, 1, 87, [1])]
noncomputable def zx_c75 : List zx_RI := [(.aload_n 0, 1, 1, [0]), (.invokespecial 1, 3, 4, [0, 419]), (.nop, 0, 0, []), (.nop, 0, 0, []), (.aload_n 0, 1, 5, [0]), (.new 7, 3, 8, [8, 1, 420, 421, 127]), (.nop, 0, 0, []), (.nop, 0, 0, []), (.dup, 1, 9, []), (.bipush 41, 2, 11, [41]), (.nop, 0, 0, []), (.invokespecial 11, 3, 14, [2, 2, 8, 100, 1, 1312, 422, 423, 0, 127, 2, 1, 0]), (.nop, 0, 0, []), (.nop, 0, 0, []), (.putfield 14, 3, 17, [5, 2, 2, 437]), (.nop, 0, 0, []), (.nop, 0, 0, []), (.return_, 1, 18, [])]
noncomputable def zx_c76 : List zx_RI := [(.aload_n 0, 1, 1, [0]), (.iconst 0, 1, 2, [0]), (.putfield 18, 3, 5, [5, 0, 0, 433]), (.nop, 0, 0, []), (.nop, 0, 0, []), (.aload_n 0, 1, 6, [0]), (.iconst 0, 1, 7, [0]), (.putfield 22, 3, 10, [5, 1, 0, 435]), (.nop, 0, 0, []), (.nop, 0, 0, []), (.aload_n 0, 1, 11, [0]), (.getfield 14, 3, 14, [0, 5, 2, 437]), (.nop, 0, 0, []), (.nop, 0, 0, []), (.iconst 0, 1, 15, [0]), (.aload_n 1, 1, 16, [1]), (.invokevirtual 25, 3, 19, [2, 2, 8, 101, 0, 0, 593, 594, 595, 127, 3, 2, 1, 0]), (.nop, 0, 0, []), (.nop, 0, 0, []), (.return_, 1, 20, [])]
noncomputable def zx_c77 : List zx_RI := [(.aload_n 0, 1, 1, [0]), (.getfield 18, 3, 4, [0, 5, 0, 433]), (.nop, 0, 0, []), (.nop, 0, 0, []), (.bipush 40, 2, 6, [40]), (.nop, 0, 0, []), (.if_icmp .lt 13, 3, 9, [19]), (.nop, 0, 0, []), (.nop, 0, 0, []), (.nop, 0, 0, []), (.nop, 0, 0, []), (.nop, 0, 0, []), (.nop, 0, 0, []), (.nop, 0, 0, []), (.nop, 0, 0, []), (.nop, 0, 0, []), (.nop, 0, 0, []), (.nop, 0, 0, []), (.nop, 0, 0, []), (.aload_n 0, 1, 20, [0]), (.dup, 1, 21, []), (.getfield 18, 3, 24, [0, 5, 0, 433]), (.nop, 0, 0, []), (.nop, 0, 0, []), (.iconst 1, 1, 25, [1]), (.iadd, 1, 26, []), (.putfield 18, 3, 29, [5, 0, 0, 433]), (.nop, 0, 0, []), (.nop, 0, 0, []), (.aload_n 0, 1, 30, [0]), (.iconst 0, 1, 31, [0]), (.putfield 22, 3, 34, [5, 1, 0, 435]), (.nop, 0, 0, []), (.nop, 0, 0, []), (.aload_n 0, 1, 35, [0]), (.getfield 14, 3, 38, [0, 5, 2, 437]), (.nop, 0, 0, []), (.nop, 0, 0, []), (.aload_n 0, 1, 39, [0]), (.getfield 18, 3, 42, [0, 5, 0, 433]), (.nop, 0, 0, []), (.nop, 0, 0, []), (.aload_n 1, 1, 43, [1]), (.invokevirtual 25, 3, 46, [2, 2, 8, 101, 0, 0, 593, 594, 595, 127, 3, 2, 1, 0]), (.nop, 0, 0, []), (.nop, 0, 0, []), (.return_, 1, 47, [])]
noncomputable def zx_c78 : List zx_RI := [(.aload_n 0, 1, 1, [0]), (.getfield 18, 3, 4, [0, 5, 0, 433]), (.nop, 0, 0, []), (.nop, 0, 0, []), (.ifCond .ne 5, 3, 7, [9]), (.nop, 0, 0, []), (.nop, 0, 0, []), (.iconst 0, 1, 8, [0]), (.ireturn, 1, 9, [1])]
noncomputable def zx_c79 : List zx_RI := [(.aload_n 0, 1, 1, [0]), (.getfield 22, 3, 4, [0, 5, 1, 435]), (.nop, 0, 0, []), (.nop, 0, 0, []), (.ifCond .ne 5, 3, 7, [9]), (.nop, 0, 0, []), (.nop, 0, 0, []), (.iconst 0, 1, 8, [0]), (.ireturn, 1, 9, [1])]
noncomputable def zx_c80 : List zx_RI := [(.aload_n 0, 1, 1, [0]), (.invokespecial 3, 3, 4, [0, 376]), (.nop, 0, 0, []), (.nop, 0, 0, []), (.aload_n 0, 1, 5, [0]), (.aload_n 1, 1, 6, [1]), (.putfield 9, 3, 9, [6, 0, 2, 377]), (.nop, 0, 0, []), (.nop, 0, 0, []), (.aload_n 0, 1, 10, [0]), (.iconst 5, 1, 11, [5]), (.newarray .int, 2, 13, []), (.nop, 0, 0, []), (.putfield 15, 3, 16, [6, 1, 2, 378]), (.nop, 0, 0, []), (.nop, 0, 0, []), (.aload_n 0, 1, 17, [0]), (.iconst 5, 1, 18, [5]), (.newarray .int, 2, 20, []), (.nop, 0, 0, []), (.putfield 19, 3, 23, [6, 2, 2, 380]), (.nop, 0, 0, []), (.nop, 0, 0, []), (.aload_n 0, 1, 24, [0]), (.iconst 5, 1, 25, [5]), (.newarray .int, 2, 27, []), (.nop, 0, 0, []), (.putfield 22, 3, 30, [6, 3, 2, 382]), (.nop, 0, 0, []), (.nop, 0, 0, []), (.aload_n 0, 1, 31, [0]), (.iconst 5, 1, 32, [5]), (.newarray .int, 2, 34, []), (.nop, 0, 0, []), (.putfield 25, 3, 37, [6, 4, 2, 385]), (.nop, 0, 0, []), (.nop, 0, 0, []), (.aload_n 0, 1, 38, [0]), (.iconst 5, 1, 39, [5]), (.newarray .int, 2, 41, []), (.nop, 0, 0, []), (.putfield 28, 3, 44, [6, 5, 2, 387]), (.nop, 0, 0, []), (.nop, 0, 0, []), (.aload_n 0, 1, 45, [0]), (.iconst 5, 1, 46, [5]), (.newarray .int, 2, 48, []), (.nop, 0, 0, []), (.putfield 31, 3, 51, [6, 6, 2, 389]), (.nop, 0, 0, []), (.nop, 0, 0, []), (.return_, 1, 52, [])]
noncomputable def zx_c81 : List zx_RI := [(.aload_n 0, 1, 1, [0]), (.aload_n 1, 1, 2, [1]), (.putfield 9, 3, 5, [6, 0, 2, 377]), (.nop, 0, 0, []), (.nop, 0, 0, []), (.iconst 0, 1, 6, [0]), (.istore_n 2, 1, 7, [2]), (.iload_n 2, 1, 8, [2]), (.iconst 5, 1, 9, [5]), (.if_icmp .ge 67, 3, 12, [76]), (.nop, 0, 0, []), (.nop, 0, 0, []), (.aload_n 0, 1, 13, [0]), (.getfield 15, 3, 16, [0, 6, 1, 378]), (.nop, 0, 0, []), (.nop, 0, 0, []), (.iload_n 2, 1, 17, [2]), (.aload_n 0, 1, 18, [0]), (.getfield 9, 3, 21, [0, 6, 0, 377]), (.nop, 0, 0, []), (.nop, 0, 0, []), (.getfield 34, 3, 24, [0, 10, 9, 333]), (.nop, 0, 0, []), (.nop, 0, 0, []), (.iload_n 2, 1, 25, [2]), (.iaload, 1, 26, []), (.iastore, 1, 27, []), (.aload_n 0, 1, 28, [0]), (.getfield 19, 3, 31, [0, 6, 2, 380]), (.nop, 0, 0, []), (.nop, 0, 0, []), (.iload_n 2, 1, 32, [2]), (.iconst 0, 1, 33, [0]), (.iastore, 1, 34, []), (.aload_n 0, 1, 35, [0]), (.getfield 22, 3, 38, [0, 6, 3, 382]), (.nop, 0, 0, []), (.nop, 0, 0, []), (.iload_n 2, 1, 39, [2]), (.iconst (-1), 1, 40, [4294967295]), (.iastore, 1, 41, []), (.aload_n 0, 1, 42, [0]), (.getfield 25, 3, 45, [0, 6, 4, 385]), (.nop, 0, 0, []), (.nop, 0, 0, []), (.iload_n 2, 1, 46, [2]), (.iconst 0, 1, 47, [0]), (.iastore, 1, 48, []), (.aload_n 0, 1, 49, [0]), (.getfield 28, 3, 52, [0, 6, 5, 387]), (.nop, 0, 0, []), (.nop, 0, 0, []), (.iload_n 2, 1, 53, [2]), (.aload_n 0, 1, 54, [0]), (.getfield 9, 3, 57, [0, 6, 0, 377]), (.nop, 0, 0, []), (.nop, 0, 0, []), (.getfield 37, 3, 60, [0, 10, 10, 335]), (.nop, 0, 0, []), (.nop, 0, 0, []), (.iload_n 2, 1, 61, [2]), (.iaload, 1, 62, []), (.iastore, 1, 63, []), (.aload_n 0, 1, 64, [0]), (.getfield 31, 3, 67, [0, 6, 6, 389]), (.nop, 0, 0, []), (.nop, 0, 0, []), (.iload_n 2, 1, 68, [2]), (.iconst 0, 1, 69, [0]), (.iastore, 1, 70, []), (.iinc 2 1, 3, 73, [2, 1]), (.nop, 0, 0, []), (.nop, 0, 0, []), (.goto (-66), 3, 76, [7]), (.nop, 0, 0, []), (.nop, 0, 0, []), (.aload_n 0, 1, 77, [0]), (.iconst 0, 1, 78, [0]), (.putfield 38, 3, 81, [6, 7, 0, 391]), (.nop, 0, 0, []), (.nop, 0, 0, []), (.aload_n 0, 1, 82, [0]), (.aload_n 0, 1, 83, [0]), (.getfield 9, 3, 86, [0, 6, 0, 377]), (.nop, 0, 0, []), (.nop, 0, 0, []), (.getfield 42, 3, 89, [0, 10, 3, 318]), (.nop, 0, 0, []), (.nop, 0, 0, []), (.putfield 45, 3, 92, [6, 8, 0, 393]), (.nop, 0, 0, []), (.nop, 0, 0, []), (.return_, 1, 93, [])]
noncomputable def zx_c82 : List zx_RI := [(.aload_n 0, 1, 1, [0]), (.invokevirtual 122, 3, 4, [2, 2, 6, 85, 0, 0, 989, 990, 991, 125, 1, 0]), (.nop, 0, 0, []), (.nop, 0, 0, []), (.istore_n 1, 1, 5, [1]), (.iconst 0, 1, 6, [0]), (.istore_n 2, 1, 7, [2]), (.iload_n 2, 1, 8, [2]), (.aload_n 0, 1, 9, [0]), (.getfield 9, 3, 12, [0, 6, 0, 377]), (.nop, 0, 0, []), (.nop, 0, 0, []), (.getfield 54, 3, 15, [0, 10, 0, 306]), (.nop, 0, 0, []), (.nop, 0, 0, []), (.if_icmp .ge 61, 3, 18, [76]), (.nop, 0, 0, []), (.nop, 0, 0, []), (.nop, 0, 0, []), (.nop, 0, 0, []), (.nop, 0, 0, []), (.nop, 0, 0, []), (.nop, 0, 0, []), (.nop, 0, 0, []), (.nop, 0, 0, []), (.nop, 0, 0, []), (.nop, 0, 0, []), (.nop, 0, 0, []), (.nop, 0, 0, []), (.nop, 0, 0, []), (.nop, 0, 0, []), (.nop, 0, 0, []), (.nop, 0, 0, []), (.nop, 0, 0, []), (.nop, 0, 0, []), (.nop, 0, 0, []), (.nop, 0, 0, []), (.nop, 0, 0, []), (.nop, 0, 0, []), (.nop, 0, 0, []), (.nop, 0, 0, []), (.nop, 0, 0, []), (.nop, 0, 0, []), (.nop, 0, 0, []), (.nop, 0, 0, []), (.nop, 0, 0, []), (.nop, 0, 0, []), (.nop, 0, 0, []), (.nop, 0, 0, []), (.nop, 0, 0, []), (.nop, 0, 0, []), (.nop, 0, 0, []), (.nop, 0, 0, []), (.nop, 0, 0, []), (.nop, 0, 0, []), (.nop, 0, 0, []), (.nop, 0, 0, []), (.nop, 0, 0, []), (.nop, 0, 0, []), (.nop, 0, 0, []), (.nop, 0, 0, []), (.nop, 0, 0, []), (.nop, 0, 0, []), (.nop, 0, 0, []), (.nop, 0, 0, []), (.nop, 0, 0, []), (.nop, 0, 0, []), (.nop, 0, 0, []), (.nop, 0, 0, []), (.nop, 0, 0, []), (.nop, 0, 0, []), (.nop, 0, 0, []), (.nop, 0, 0, []), (.nop, 0, 0, []), (.nop, 0, 0, []), (.nop, 0, 0, []), (.return_, 1, 77, [])]
noncomputable def zx_c83 : List zx_RI := [(.aload_n 0, 1, 1, [0]), (.getfield 9, 3, 4, [0, 6, 0, 377]), (.nop, 0, 0, []), (.nop, 0, 0, []), (.getfield 54, 3, 7, [0, 10, 0, 306]), (.nop, 0, 0, []), (.nop, 0, 0, []), (.ireturn, 1, 8, [0])]
noncomputable def zx_c84 : List zx_RI := [(.aload_n 0, 1, 1, [0]), (.aload_n 1, 1, 2, [1]), (.getfield 9, 3, 5, [0, 6, 0, 377]), (.nop, 0, 0, []), (.nop, 0, 0, []), (.putfield 9, 3, 8, [6, 0, 2, 377]), (.nop, 0, 0, []), (.nop, 0, 0, []), (.aload_n 1, 1, 9, [1]), (.getfield 15, 3, 12, [0, 6, 1, 378]), (.nop, 0, 0, []), (.nop, 0, 0, []), (.iconst 0, 1, 13, [0]), (.aload_n 0, 1, 14, [0]), (.getfield 15, 3, 17, [0, 6, 1, 378]), (.nop, 0, 0, []), (.nop, 0, 0, []), (.iconst 0, 1, 18, [0]), (.iconst 5, 1, 19, [5]), (.invokestatic 48, 3, 22, [1, 601]), (.nop, 0, 0, []), (.nop, 0, 0, []), (.aload_n 1, 1, 23, [1]), (.getfield 19, 3, 26, [0, 6, 2, 380]), (.nop, 0, 0, []), (.nop, 0, 0, []), (.iconst 0, 1, 27, [0]), (.aload_n 0, 1, 28, [0]), (.getfield 19, 3, 31, [0, 6, 2, 380]), (.nop, 0, 0, []), (.nop, 0, 0, []), (.iconst 0, 1, 32, [0]), (.iconst 5, 1, 33, [5]), (.invokestatic 48, 3, 36, [1, 601]), (.nop, 0, 0, []), (.nop, 0, 0, []), (.aload_n 1, 1, 37, [1]), (.getfield 22, 3, 40, [0, 6, 3, 382]), (.nop, 0, 0, []), (.nop, 0, 0, []), (.iconst 0, 1, 41, [0]), (.aload_n 0, 1, 42, [0]), (.getfield 22, 3, 45, [0, 6, 3, 382]), (.nop, 0, 0, []), (.nop, 0, 0, []), (.iconst 0, 1, 46, [0]), (.iconst 5, 1, 47, [5]), (.invokestatic 48, 3, 50, [1, 601]), (.nop, 0, 0, []), (.nop, 0, 0, []), (.aload_n 1, 1, 51, [1]), (.getfield 25, 3, 54, [0, 6, 4, 385]), (.nop, 0, 0, []), (.nop, 0, 0, []), (.iconst 0, 1, 55, [0]), (.aload_n 0, 1, 56, [0]), (.getfield 25, 3, 59, [0, 6, 4, 385]), (.nop, 0, 0, []), (.nop, 0, 0, []), (.iconst 0, 1, 60, [0]), (.iconst 5, 1, 61, [5]), (.invokestatic 48, 3, 64, [1, 601]), (.nop, 0, 0, []), (.nop, 0, 0, []), (.aload_n 1, 1, 65, [1]), (.getfield 28, 3, 68, [0, 6, 5, 387]), (.nop, 0, 0, []), (.nop, 0, 0, []), (.iconst 0, 1, 69, [0]), (.aload_n 0, 1, 70, [0]), (.getfield 28, 3, 73, [0, 6, 5, 387]), (.nop, 0, 0, []), (.nop, 0, 0, []), (.iconst 0, 1, 74, [0]), (.iconst 5, 1, 75, [5]), (.invokestatic 48, 3, 78, [1, 601]), (.nop, 0, 0, []), (.nop, 0, 0, []), (.aload_n 1, 1, 79, [1]), (.getfield 31, 3, 82, [0, 6, 6, 389]), (.nop, 0, 0, []), (.nop, 0, 0, []), (.iconst 0, 1, 83, [0]), (.aload_n 0, 1, 84, [0]), (.getfield 31, 3, 87, [0, 6, 6, 389]), (.nop, 0, 0, []), (.nop, 0, 0, []), (.iconst 0, 1, 88, [0]), (.iconst 5, 1, 89, [5]), (.invokestatic 48, 3, 92, [1, 601]), (.nop, 0, 0, []), (.nop, 0, 0, []), (.aload_n 0, 1, 93, [0]), (.aload_n 1, 1, 94, [1]), (.getfield 38, 3, 97, [0, 6, 7, 391]), (.nop, 0, 0, []), (.nop, 0, 0, []), (.putfield 38, 3, 100, [6, 7, 0, 391]), (.nop, 0, 0, []), (.nop, 0, 0, []), (.aload_n 0, 1, 101, [0]), (.aload_n 1, 1, 102, [1]), (.getfield 45, 3, 105, [0, 6, 8, 393]), (.nop, 0, 0, []), (.nop, 0, 0, []), (.putfield 45, 3, 108, [6, 8, 0, 393]), (.nop, 0, 0, []), (.nop, 0, 0, []), (.return_, 1, 109, [])]
noncomputable def zx_c85 : List zx_RI := [(.aload_n 0, 1, 1, [0]), (.invokevirtual 71, 3, 4, [2, 2, 6, 86, 0, 0, 993, 994, 995, 125, 3, 0]), (.nop, 0, 0, []), (.nop, 0, 0, []), (.aload_n 0, 1, 5, [0]), (.invokevirtual 75, 3, 8, [2, 2, 6, 89, 0, 0, 976, 977, 978, 125, 1, 0]), (.nop, 0, 0, []), (.nop, 0, 0, []), (.iconst (-1), 1, 9, [4294967295]), (.ixor, 1, 10, []), (.iand, 1, 11, []), (.ireturn, 1, 12, [0])]
noncomputable def zx_c86 : List zx_RI := [(.iconst 0, 1, 1, [0]), (.istore_n 1, 1, 2, [1]), (.iconst 0, 1, 3, [0]), (.istore_n 2, 1, 4, [2]), (.iload_n 2, 1, 5, [2]), (.aload_n 0, 1, 6, [0]), (.getfield 9, 3, 9, [0, 6, 0, 377]), (.nop, 0, 0, []), (.nop, 0, 0, []), (.getfield 54, 3, 12, [0, 10, 0, 306]), (.nop, 0, 0, []), (.nop, 0, 0, []), (.if_icmp .ge 23, 3, 15, [35]), (.nop, 0, 0, []), (.nop, 0, 0, []), (.nop, 0, 0, []), (.nop, 0, 0, []), (.nop, 0, 0, []), (.nop, 0, 0, []), (.nop, 0, 0, []), (.nop, 0, 0, []), (.nop, 0, 0, []), (.nop, 0, 0, []), (.nop, 0, 0, []), (.nop, 0, 0, []), (.nop, 0, 0, []), (.nop, 0, 0, []), (.nop, 0, 0, []), (.nop, 0, 0, []), (.nop, 0, 0, []), (.nop, 0, 0, []), (.nop, 0, 0, []), (.nop, 0, 0, []), (.nop, 0, 0, []), (.nop, 0, 0, []), (.iload_n 1, 1, 36, [1]), (.ireturn, 1, 37, [0])]
noncomputable def zx_c87 : List zx_RI := [(.iconst 0, 1, 1, [0]), (.istore_n 2, 1, 2, [2]), (.iconst 0, 1, 3, [0]), (.istore_n 3, 1, 4, [3]), (.iload_n 3, 1, 5, [3]), (.aload_n 0, 1, 6, [0]), (.getfield 9, 3, 9, [0, 6, 0, 377]), (.nop, 0, 0, []), (.nop, 0, 0, []), (.getfield 57, 3, 12, [0, 10, 1, 312]), (.nop, 0, 0, []), (.nop, 0, 0, []), (.if_icmp .ge 32, 3, 15, [44]), (.nop, 0, 0, []), (.nop, 0, 0, []), (.nop, 0, 0, []), (.nop, 0, 0, []), (.nop, 0, 0, []), (.nop, 0, 0, []), (.nop, 0, 0, []), (.nop, 0, 0, []), (.nop, 0, 0, []), (.nop, 0, 0, []), (.nop, 0, 0, []), (.nop, 0, 0, []), (.nop, 0, 0, []), (.nop, 0, 0, []), (.nop, 0, 0, []), (.nop, 0, 0, []), (.nop, 0, 0, []), (.nop, 0, 0, []), (.nop, 0, 0, []), (.nop, 0, 0, []), (.nop, 0, 0, []), (.nop, 0, 0, []), (.nop, 0, 0, []), (.nop, 0, 0, []), (.nop, 0, 0, []), (.nop, 0, 0, []), (.nop, 0, 0, []), (.nop, 0, 0, []), (.nop, 0, 0, []), (.nop, 0, 0, []), (.nop, 0, 0, []), (.iload_n 1, 1, 45, [1]), (.ifCond .eq 7, 3, 48, [52]), (.nop, 0, 0, []), (.nop, 0, 0, []), (.aload_n 0, 1, 49, [0]), (.invokevirtual 110, 3, 52, [2, 2, 6, 82, 0, 0, 985, 987, 35, 125, 3, 0]), (.nop, 0, 0, []), (.nop, 0, 0, []), (.aload_n 0, 1, 53, [0]), (.dup, 1, 54, []), (.getfield 38, 3, 57, [0, 6, 7, 391]), (.nop, 0, 0, []), (.nop, 0, 0, []), (.iconst 1, 1, 58, [1]), (.iadd, 1, 59, []), (.putfield 38, 3, 62, [6, 7, 0, 391]), (.nop, 0, 0, []), (.nop, 0, 0, []), (.iload_n 2, 1, 63, [2]), (.ireturn, 1, 64, [0])]
noncomputable def zx_c88 : List zx_RI := [(.aload_n 0, 1, 1, [0]), (.getfield 9, 3, 4, [0, 6, 0, 377]), (.nop, 0, 0, []), (.nop, 0, 0, []), (.getfield 57, 3, 7, [0, 10, 1, 312]), (.nop, 0, 0, []), (.nop, 0, 0, []), (.ireturn, 1, 8, [0])]
noncomputable def zx_c89 : List zx_RI := [(.aload_n 0, 1, 1, [0]), (.iconst (-1), 1, 2, [4294967295]), (.invokevirtual 68, 3, 5, [2, 2, 6, 90, 0, 0, 948, 949, 950, 125, 4, 1, 0]), (.nop, 0, 0, []), (.nop, 0, 0, []), (.ireturn, 1, 6, [0])]
noncomputable def zx_c90 : List zx_RI := [(.iconst 0, 1, 1, [0]), (.istore_n 2, 1, 2, [2]), (.iconst 0, 1, 3, [0]), (.istore_n 3, 1, 4, [3]), (.iload_n 3, 1, 5, [3]), (.aload_n 0, 1, 6, [0]), (.getfield 9, 3, 9, [0, 6, 0, 377]), (.nop, 0, 0, []), (.nop, 0, 0, []), (.getfield 57, 3, 12, [0, 10, 1, 312]), (.nop, 0, 0, []), (.nop, 0, 0, []), (.if_icmp .ge 34, 3, 15, [46]), (.nop, 0, 0, []), (.nop, 0, 0, []), (.nop, 0, 0, []), (.nop, 0, 0, []), (.nop, 0, 0, []), (.nop, 0, 0, []), (.nop, 0, 0, []), (.nop, 0, 0, []), (.nop, 0, 0, []), (.nop, 0, 0, []), (.nop, 0, 0, []), (.nop, 0, 0, []), (.nop, 0, 0, []), (.nop, 0, 0, []), (.nop, 0, 0, []), (.nop, 0, 0, []), (.nop, 0, 0, []), (.nop, 0, 0, []), (.nop, 0, 0, []), (.nop, 0, 0, []), (.nop, 0, 0, []), (.nop, 0, 0, []), (.nop, 0, 0, []), (.nop, 0, 0, []), (.nop, 0, 0, []), (.nop, 0, 0, []), (.nop, 0, 0, []), (.nop, 0, 0, []), (.nop, 0, 0, []), (.nop, 0, 0, []), (.nop, 0, 0, []), (.nop, 0, 0, []), (.nop, 0, 0, []), (.iload_n 2, 1, 47, [2]), (.ireturn, 1, 48, [0])]
noncomputable def zx_c91 : List zx_RI := [(.aload_n 0, 1, 1, [0]), (.invokevirtual 75, 3, 4, [2, 2, 6, 89, 0, 0, 976, 977, 978, 125, 1, 0]), (.nop, 0, 0, []), (.nop, 0, 0, []), (.istore_n 1, 1, 5, [1]), (.iconst 0, 1, 6, [0]), (.istore_n 2, 1, 7, [2]), (.iconst 0, 1, 8, [0]), (.istore_n 3, 1, 9, [3]), (.iload_n 3, 1, 10, [3]), (.aload_n 0, 1, 11, [0]), (.getfield 9, 3, 14, [0, 6, 0, 377]), (.nop, 0, 0, []), (.nop, 0, 0, []), (.getfield 57, 3, 17, [0, 10, 1, 312]), (.nop, 0, 0, []), (.nop, 0, 0, []), (.if_icmp .ge 33, 3, 20, [50]), (.nop, 0, 0, []), (.nop, 0, 0, []), (.nop, 0, 0, []), (.nop, 0, 0, []), (.nop, 0, 0, []), (.nop, 0, 0, []), (.nop, 0, 0, []), (.nop, 0, 0, []), (.nop, 0, 0, []), (.nop, 0, 0, []), (.nop, 0, 0, []), (.nop, 0, 0, []), (.nop, 0, 0, []), (.nop, 0, 0, []), (.nop, 0, 0, []), (.nop, 0, 0, []), (.nop, 0, 0, []), (.nop, 0, 0, []), (.nop, 0, 0, []), (.nop, 0, 0, []), (.nop, 0, 0, []), (.nop, 0, 0, []), (.nop, 0, 0, []), (.nop, 0, 0, []), (.nop, 0, 0, []), (.nop, 0, 0, []), (.nop, 0, 0, []), (.nop, 0, 0, []), (.nop, 0, 0, []), (.nop, 0, 0, []), (.nop, 0, 0, []), (.nop, 0, 0, []), (.iload_n 2, 1, 51, [2]), (.ireturn, 1, 52, [0])]
noncomputable def zx_c92 : List zx_RI := [(.iload_n 2, 1, 1, [2]), (.ifCond .lt 12, 3, 4, [13]), (.nop, 0, 0, []), (.nop, 0, 0, []), (.iload_n 2, 1, 5, [2]), (.aload_n 1, 1, 6, [1]), (.arraylength, 1, 7, []), (.bipush 32, 2, 9, [32]), (.nop, 0, 0, []), (.isub, 1, 10, []), (.if_icmp .le 4, 3, 13, [14]), (.nop, 0, 0, []), (.nop, 0, 0, []), (.nop, 0, 0, []), (.aload_n 0, 1, 15, [0]), (.getfield 15, 3, 18, [0, 6, 1, 378]), (.nop, 0, 0, []), (.nop, 0, 0, []), (.iconst 0, 1, 19, [0]), (.aload_n 1, 1, 20, [1]), (.iload_n 2, 1, 21, [2]), (.iconst 5, 1, 22, [5]), (.invokestatic 48, 3, 25, [1, 601]), (.nop, 0, 0, []), (.nop, 0, 0, []), (.aload_n 0, 1, 26, [0]), (.getfield 19, 3, 29, [0, 6, 2, 380]), (.nop, 0, 0, []), (.nop, 0, 0, []), (.iconst 0, 1, 30, [0]), (.aload_n 1, 1, 31, [1]), (.iload_n 2, 1, 32, [2]), (.iconst 5, 1, 33, [5]), (.iadd, 1, 34, []), (.iconst 5, 1, 35, [5]), (.invokestatic 48, 3, 38, [1, 601]), (.nop, 0, 0, []), (.nop, 0, 0, []), (.aload_n 0, 1, 39, [0]), (.getfield 22, 3, 42, [0, 6, 3, 382]), (.nop, 0, 0, []), (.nop, 0, 0, []), (.iconst 0, 1, 43, [0]), (.aload_n 1, 1, 44, [1]), (.iload_n 2, 1, 45, [2]), (.bipush 10, 2, 47, [10]), (.nop, 0, 0, []), (.iadd, 1, 48, []), (.iconst 5, 1, 49, [5]), (.invokestatic 48, 3, 52, [1, 601]), (.nop, 0, 0, []), (.nop, 0, 0, []), (.aload_n 0, 1, 53, [0]), (.getfield 25, 3, 56, [0, 6, 4, 385]), (.nop, 0, 0, []), (.nop, 0, 0, []), (.iconst 0, 1, 57, [0]), (.aload_n 1, 1, 58, [1]), (.iload_n 2, 1, 59, [2]), (.bipush 15, 2, 61, [15]), (.nop, 0, 0, []), (.iadd, 1, 62, []), (.iconst 5, 1, 63, [5]), (.invokestatic 48, 3, 66, [1, 601]), (.nop, 0, 0, []), (.nop, 0, 0, []), (.aload_n 0, 1, 67, [0]), (.getfield 28, 3, 70, [0, 6, 5, 387]), (.nop, 0, 0, []), (.nop, 0, 0, []), (.iconst 0, 1, 71, [0]), (.aload_n 1, 1, 72, [1]), (.iload_n 2, 1, 73, [2]), (.bipush 20, 2, 75, [20]), (.nop, 0, 0, []), (.iadd, 1, 76, []), (.iconst 5, 1, 77, [5]), (.invokestatic 48, 3, 80, [1, 601]), (.nop, 0, 0, []), (.nop, 0, 0, []), (.aload_n 0, 1, 81, [0]), (.getfield 31, 3, 84, [0, 6, 6, 389]), (.nop, 0, 0, []), (.nop, 0, 0, []), (.iconst 0, 1, 85, [0]), (.aload_n 1, 1, 86, [1]), (.iload_n 2, 1, 87, [2]), (.bipush 25, 2, 89, [25]), (.nop, 0, 0, []), (.iadd, 1, 90, []), (.iconst 5, 1, 91, [5]), (.invokestatic 48, 3, 94, [1, 601]), (.nop, 0, 0, []), (.nop, 0, 0, []), (.aload_n 1, 1, 95, [1]), (.iload_n 2, 1, 96, [2]), (.bipush 30, 2, 98, [30]), (.nop, 0, 0, []), (.iadd, 1, 99, []), (.aload_n 0, 1, 100, [0]), (.getfield 38, 3, 103, [0, 6, 7, 391]), (.nop, 0, 0, []), (.nop, 0, 0, []), (.iastore, 1, 104, []), (.aload_n 1, 1, 105, [1]), (.iload_n 2, 1, 106, [2]), (.bipush 30, 2, 108, [30]), (.nop, 0, 0, []), (.iadd, 1, 109, []), (.iconst 1, 1, 110, [1]), (.iadd, 1, 111, []), (.aload_n 0, 1, 112, [0]), (.getfield 45, 3, 115, [0, 6, 8, 393]), (.nop, 0, 0, []), (.nop, 0, 0, []), (.iastore, 1, 116, []), (.return_, 1, 117, [])]
noncomputable def zx_c93 : List zx_RI := [(.aload_n 0, 1, 1, [0]), (.invokespecial 3, 3, 4, [0, 482]), (.nop, 0, 0, []), (.nop, 0, 0, []), (.aload_n 0, 1, 5, [0]), (.iconst 5, 1, 6, [5]), (.newarray .int, 2, 8, []), (.nop, 0, 0, []), (.putfield 9, 3, 11, [7, 0, 2, 483]), (.nop, 0, 0, []), (.nop, 0, 0, []), (.aload_n 0, 1, 12, [0]), (.iconst 5, 1, 13, [5]), (.newarray .int, 2, 15, []), (.nop, 0, 0, []), (.putfield 15, 3, 18, [7, 1, 2, 485]), (.nop, 0, 0, []), (.nop, 0, 0, []), (.aload_n 0, 1, 19, [0]), (.bipush 25, 2, 21, [25]), (.nop, 0, 0, []), (.newarray .int, 2, 23, []), (.nop, 0, 0, []), (.putfield 18, 3, 26, [7, 2, 2, 486]), (.nop, 0, 0, []), (.nop, 0, 0, []), (.aload_n 0, 1, 27, [0]), (.bipush 25, 2, 29, [25]), (.nop, 0, 0, []), (.newarray .int, 2, 31, []), (.nop, 0, 0, []), (.putfield 21, 3, 34, [7, 3, 2, 487]), (.nop, 0, 0, []), (.nop, 0, 0, []), (.aload_n 0, 1, 35, [0]), (.iconst 5, 1, 36, [5]), (.newarray .int, 2, 38, []), (.nop, 0, 0, []), (.putfield 24, 3, 41, [7, 4, 2, 488]), (.nop, 0, 0, []), (.nop, 0, 0, []), (.return_, 1, 42, [])]
noncomputable def zx_c94 : List zx_RI := [(.aload_n 0, 1, 1, [0]), (.aload_n 1, 1, 2, [1]), (.invokevirtual 27, 3, 5, [2, 2, 6, 83, 0, 0, 1102, 1103, 1104, 125, 1, 0]), (.nop, 0, 0, []), (.nop, 0, 0, []), (.putfield 33, 3, 8, [7, 5, 0, 489]), (.nop, 0, 0, []), (.nop, 0, 0, []), (.aload_n 0, 1, 9, [0]), (.aload_n 1, 1, 10, [1]), (.invokevirtual 36, 3, 13, [2, 2, 6, 88, 0, 0, 1106, 1107, 1108, 125, 1, 0]), (.nop, 0, 0, []), (.nop, 0, 0, []), (.putfield 39, 3, 16, [7, 6, 0, 490]), (.nop, 0, 0, []), (.nop, 0, 0, []), (.aload_n 1, 1, 17, [1]), (.invokevirtual 89, 3, 20, [2, 2, 6, 89, 0, 0, 1180, 977, 978, 125, 1, 0]), (.nop, 0, 0, []), (.nop, 0, 0, []), (.istore_n 2, 1, 21, [2]), (.aload_n 0, 1, 22, [0]), (.iconst (-1), 1, 23, [4294967295]), (.putfield 50, 3, 26, [7, 9, 0, 493]), (.nop, 0, 0, []), (.nop, 0, 0, []), (.aload_n 0, 1, 27, [0]), (.iconst (-1), 1, 28, [4294967295]), (.putfield 80, 3, 31, [7, 10, 0, 494]), (.nop, 0, 0, []), (.nop, 0, 0, []), (.iconst 0, 1, 32, [0]), (.istore_n 3, 1, 33, [3]), (.iload_n 3, 1, 34, [3]), (.aload_n 0, 1, 35, [0]), (.getfield 39, 3, 38, [0, 7, 6, 490]), (.nop, 0, 0, []), (.nop, 0, 0, []), (.if_icmp .ge 58, 3, 41, [96]), (.nop, 0, 0, []), (.nop, 0, 0, []), (.nop, 0, 0, []), (.nop, 0, 0, []), (.nop, 0, 0, []), (.nop, 0, 0, []), (.nop, 0, 0, []), (.nop, 0, 0, []), (.nop, 0, 0, []), (.nop, 0, 0, []), (.nop, 0, 0, []), (.nop, 0, 0, []), (.nop, 0, 0, []), (.nop, 0, 0, []), (.nop, 0, 0, []), (.nop, 0, 0, []), (.nop, 0, 0, []), (.nop, 0, 0, []), (.nop, 0, 0, []), (.nop, 0, 0, []), (.nop, 0, 0, []), (.nop, 0, 0, []), (.nop, 0, 0, []), (.nop, 0, 0, []), (.nop, 0, 0, []), (.nop, 0, 0, []), (.nop, 0, 0, []), (.nop, 0, 0, []), (.nop, 0, 0, []), (.nop, 0, 0, []), (.nop, 0, 0, []), (.nop, 0, 0, []), (.nop, 0, 0, []), (.nop, 0, 0, []), (.nop, 0, 0, []), (.nop, 0, 0, []), (.nop, 0, 0, []), (.nop, 0, 0, []), (.nop, 0, 0, []), (.nop, 0, 0, []), (.nop, 0, 0, []), (.nop, 0, 0, []), (.nop, 0, 0, []), (.nop, 0, 0, []), (.nop, 0, 0, []), (.nop, 0, 0, []), (.nop, 0, 0, []), (.nop, 0, 0, []), (.nop, 0, 0, []), (.nop, 0, 0, []), (.nop, 0, 0, []), (.nop, 0, 0, []), (.nop, 0, 0, []), (.nop, 0, 0, []), (.nop, 0, 0, []), (.nop, 0, 0, []), (.nop, 0, 0, []), (.aload_n 0, 1, 97, [0]), (.iconst 0, 1, 98, [0]), (.iload_n 2, 1, 99, [2]), (.iconst 0, 1, 100, [0]), (.iconst 0, 1, 101, [0]), (.invokevirtual 95, 3, 104, [2, 2, 7, 95, 0, 0, 1181, 1183, 45, 130, 9, 4, 3, 2, 1, 0]), (.nop, 0, 0, []), (.nop, 0, 0, []), (.aload_n 0, 1, 105, [0]), (.getfield 80, 3, 108, [0, 7, 10, 494]), (.nop, 0, 0, []), (.nop, 0, 0, []), (.ireturn, 1, 109, [0])]
noncomputable def zx_c95 : List zx_RI := [(.iload_n 1, 1, 1, [1]), (.aload_n 0, 1, 2, [0]), (.getfield 39, 3, 5, [0, 7, 6, 490]), (.nop, 0, 0, []), (.nop, 0, 0, []), (.if_icmp .ge 8, 3, 8, [13]), (.nop, 0, 0, []), (.nop, 0, 0, []), (.nop, 0, 0, []), (.nop, 0, 0, []), (.nop, 0, 0, []), (.nop, 0, 0, []), (.nop, 0, 0, []), (.iload_n 3, 1, 14, [3]), (.aload_n 0, 1, 15, [0]), (.getfield 80, 3, 18, [0, 7, 10, 494]), (.nop, 0, 0, []), (.nop, 0, 0, []), (.if_icmp .gt 20, 3, 21, [38]), (.nop, 0, 0, []), (.nop, 0, 0, []), (.nop, 0, 0, []), (.nop, 0, 0, []), (.nop, 0, 0, []), (.nop, 0, 0, []), (.nop, 0, 0, []), (.nop, 0, 0, []), (.nop, 0, 0, []), (.nop, 0, 0, []), (.nop, 0, 0, []), (.nop, 0, 0, []), (.nop, 0, 0, []), (.nop, 0, 0, []), (.nop, 0, 0, []), (.nop, 0, 0, []), (.nop, 0, 0, []), (.nop, 0, 0, []), (.nop, 0, 0, []), (.aload_n 0, 1, 39, [0]), (.iload 4, 2, 41, [4]), (.nop, 0, 0, []), (.iload_n 3, 1, 42, [3]), (.invokevirtual 73, 3, 45, [2, 2, 7, 96, 0, 0, 1125, 1127, 40, 130, 3, 2, 1, 0]), (.nop, 0, 0, []), (.nop, 0, 0, []), (.return_, 1, 46, [])]
noncomputable def zx_c96 : List zx_RI := [(.aload_n 0, 1, 1, [0]), (.iload_n 1, 1, 2, [1]), (.putfield 50, 3, 5, [7, 9, 0, 493]), (.nop, 0, 0, []), (.nop, 0, 0, []), (.aload_n 0, 1, 6, [0]), (.iload_n 2, 1, 7, [2]), (.putfield 80, 3, 10, [7, 10, 0, 494]), (.nop, 0, 0, []), (.nop, 0, 0, []), (.aload_n 0, 1, 11, [0]), (.getfield 15, 3, 14, [0, 7, 1, 485]), (.nop, 0, 0, []), (.nop, 0, 0, []), (.iconst 0, 1, 15, [0]), (.aload_n 0, 1, 16, [0]), (.getfield 9, 3, 19, [0, 7, 0, 483]), (.nop, 0, 0, []), (.nop, 0, 0, []), (.iconst 0, 1, 20, [0]), (.iconst 5, 1, 21, [5]), (.invokestatic 83, 3, 24, [1, 1129]), (.nop, 0, 0, []), (.nop, 0, 0, []), (.return_, 1, 25, [])]
noncomputable def zx_c97 : List zx_RI := [(.aload_n 0, 1, 1, [0]), (.aload_n 1, 1, 2, [1]), (.invokevirtual 27, 3, 5, [2, 2, 6, 83, 0, 0, 1102, 1103, 1104, 125, 1, 0]), (.nop, 0, 0, []), (.nop, 0, 0, []), (.putfield 33, 3, 8, [7, 5, 0, 489]), (.nop, 0, 0, []), (.nop, 0, 0, []), (.aload_n 0, 1, 9, [0]), (.aload_n 1, 1, 10, [1]), (.invokevirtual 36, 3, 13, [2, 2, 6, 88, 0, 0, 1106, 1107, 1108, 125, 1, 0]), (.nop, 0, 0, []), (.nop, 0, 0, []), (.putfield 39, 3, 16, [7, 6, 0, 490]), (.nop, 0, 0, []), (.nop, 0, 0, []), (.aload_n 0, 1, 17, [0]), (.aload_n 1, 1, 18, [1]), (.invokevirtual 41, 3, 21, [2, 2, 6, 86, 0, 0, 1110, 994, 995, 125, 3, 0]), (.nop, 0, 0, []), (.nop, 0, 0, []), (.putfield 44, 3, 24, [7, 7, 0, 491]), (.nop, 0, 0, []), (.nop, 0, 0, []), (.aload_n 0, 1, 25, [0]), (.iload_n 2, 1, 26, [2]), (.putfield 47, 3, 29, [7, 8, 0, 492]), (.nop, 0, 0, []), (.nop, 0, 0, []), (.aload_n 0, 1, 30, [0]), (.iconst (-1), 1, 31, [4294967295]), (.putfield 50, 3, 34, [7, 9, 0, 493]), (.nop, 0, 0, []), (.nop, 0, 0, []), (.iconst 0, 1, 35, [0]), (.istore_n 3, 1, 36, [3]), (.iload_n 3, 1, 37, [3]), (.aload_n 0, 1, 38, [0]), (.getfield 39, 3, 41, [0, 7, 6, 490]), (.nop, 0, 0, []), (.nop, 0, 0, []), (.if_icmp .ge 65, 3, 44, [106]), (.nop, 0, 0, []), (.nop, 0, 0, []), (.nop, 0, 0, []), (.nop, 0, 0, []), (.nop, 0, 0, []), (.nop, 0, 0, []), (.nop, 0, 0, []), (.nop, 0, 0, []), (.nop, 0, 0, []), (.nop, 0, 0, []), (.nop, 0, 0, []), (.nop, 0, 0, []), (.nop, 0, 0, []), (.nop, 0, 0, []), (.nop, 0, 0, []), (.nop, 0, 0, []), (.nop, 0, 0, []), (.nop, 0, 0, []), (.nop, 0, 0, []), (.nop, 0, 0, []), (.nop, 0, 0, []), (.nop, 0, 0, []), (.nop, 0, 0, []), (.nop, 0, 0, []), (.nop, 0, 0, []), (.nop, 0, 0, []), (.nop, 0, 0, []), (.nop, 0, 0, []), (.nop, 0, 0, []), (.nop, 0, 0, []), (.nop, 0, 0, []), (.nop, 0, 0, []), (.nop, 0, 0, []), (.nop, 0, 0, []), (.nop, 0, 0, []), (.nop, 0, 0, []), (.nop, 0, 0, []), (.nop, 0, 0, []), (.nop, 0, 0, []), (.nop, 0, 0, []), (.nop, 0, 0, []), (.nop, 0, 0, []), (.nop, 0, 0, []), (.nop, 0, 0, []), (.nop, 0, 0, []), (.nop, 0, 0, []), (.nop, 0, 0, []), (.nop, 0, 0, []), (.nop, 0, 0, []), (.nop, 0, 0, []), (.nop, 0, 0, []), (.nop, 0, 0, []), (.nop, 0, 0, []), (.nop, 0, 0, []), (.nop, 0, 0, []), (.nop, 0, 0, []), (.nop, 0, 0, []), (.nop, 0, 0, []), (.nop, 0, 0, []), (.nop, 0, 0, []), (.nop, 0, 0, []), (.nop, 0, 0, []), (.nop, 0, 0, []), (.nop, 0, 0, []), (.aload_n 0, 1, 107, [0]), (.iconst 0, 1, 108, [0]), (.iconst 0, 1, 109, [0]), (.invokevirtual 57, 3, 112, [2, 2, 7, 98, 0, 0, 1112, 1114, 37, 130, 4, 2, 1, 0]), (.nop, 0, 0, []), (.nop, 0, 0, []), (.aload_n 0, 1, 113, [0]), (.getfield 50, 3, 116, [0, 7, 9, 493]), (.nop, 0, 0, []), (.nop, 0, 0, []), (.ireturn, 1, 117, [0])]
noncomputable def zx_c98 : List zx_RI := [(.iload_n 1, 1, 1, [1]), (.aload_n 0, 1, 2, [0]), (.getfield 39, 3, 5, [0, 7, 6, 490]), (.nop, 0, 0, []), (.nop, 0, 0, []), (.if_icmp .ge 8, 3, 8, [13]), (.nop, 0, 0, []), (.nop, 0, 0, []), (.nop, 0, 0, []), (.nop, 0, 0, []), (.nop, 0, 0, []), (.nop, 0, 0, []), (.nop, 0, 0, []), (.aload_n 0, 1, 14, [0]), (.iload_n 2, 1, 15, [2]), (.invokevirtual 69, 3, 18, [2, 2, 7, 99, 0, 0, 1116, 1118, 38, 130, 4, 1, 0]), (.nop, 0, 0, []), (.nop, 0, 0, []), (.return_, 1, 19, [])]
noncomputable def zx_c99 : List zx_RI := [(.iconst 0, 1, 1, [0]), (.istore_n 2, 1, 2, [2]), (.iconst 0, 1, 3, [0]), (.istore_n 3, 1, 4, [3]), (.iload_n 3, 1, 5, [3]), (.aload_n 0, 1, 6, [0]), (.getfield 39, 3, 9, [0, 7, 6, 490]), (.nop, 0, 0, []), (.nop, 0, 0, []), (.if_icmp .ge 22, 3, 12, [31]), (.nop, 0, 0, []), (.nop, 0, 0, []), (.nop, 0, 0, []), (.nop, 0, 0, []), (.nop, 0, 0, []), (.nop, 0, 0, []), (.nop, 0, 0, []), (.nop, 0, 0, []), (.nop, 0, 0, []), (.nop, 0, 0, []), (.nop, 0, 0, []), (.nop, 0, 0, []), (.nop, 0, 0, []), (.nop, 0, 0, []), (.nop, 0, 0, []), (.nop, 0, 0, []), (.nop, 0, 0, []), (.nop, 0, 0, []), (.nop, 0, 0, []), (.nop, 0, 0, []), (.nop, 0, 0, []), (.iload_n 2, 1, 32, [2]), (.aload_n 0, 1, 33, [0]), (.getfield 50, 3, 36, [0, 7, 9, 493]), (.nop, 0, 0, []), (.nop, 0, 0, []), (.if_icmp .le 9, 3, 39, [45]), (.nop, 0, 0, []), (.nop, 0, 0, []), (.aload_n 0, 1, 40, [0]), (.iload_n 2, 1, 41, [2]), (.iconst 0, 1, 42, [0]), (.invokevirtual 73, 3, 45, [2, 2, 7, 96, 0, 0, 1125, 1127, 40, 130, 3, 2, 1, 0]), (.nop, 0, 0, []), (.nop, 0, 0, []), (.return_, 1, 46, [])]
noncomputable def zx_c100 : List zx_RI := [(.aload_n 0, 1, 1, [0]), (.invokespecial 1, 3, 4, [0, 425]), (.nop, 0, 0, []), (.nop, 0, 0, []), (.aload_n 0, 1, 5, [0]), (.iconst 0, 1, 6, [0]), (.iload_n 1, 1, 7, [1]), (.invokestatic 7, 3, 10, [4, 426, 427, 428, 128]), (.nop, 0, 0, []), (.nop, 0, 0, []), (.bipush 32, 2, 12, [32]), (.nop, 0, 0, []), (.imul, 1, 13, []), (.newarray .int, 2, 15, []), (.nop, 0, 0, []), (.putfield 15, 3, 18, [8, 0, 2, 429]), (.nop, 0, 0, []), (.nop, 0, 0, []), (.return_, 1, 19, [])]
noncomputable def zx_c101 : List zx_RI := [(.aload_n 2, 1, 1, [2]), (.aload_n 0, 1, 2, [0]), (.getfield 15, 3, 5, [0, 8, 0, 429]), (.nop, 0, 0, []), (.nop, 0, 0, []), (.iload_n 1, 1, 6, [1]), (.bipush 32, 2, 8, [32]), (.nop, 0, 0, []), (.imul, 1, 9, []), (.invokevirtual 21, 3, 12, [2, 2, 6, 92, 0, 0, 597, 598, 599, 125, 3, 2, 1, 0]), (.nop, 0, 0, []), (.nop, 0, 0, []), (.return_, 1, 13, [])]
noncomputable def zx_c102 : List zx_RI := [(.aload_n 0, 1, 1, [0]), (.invokespecial 3, 3, 4, [0, 156]), (.nop, 0, 0, []), (.nop, 0, 0, []), (.aload_n 0, 1, 5, [0]), (.bipush 16, 2, 7, [16]), (.nop, 0, 0, []), (.newarray .long, 2, 9, []), (.nop, 0, 0, []), (.putfield 11, 3, 12, [9, 0, 2, 217]), (.nop, 0, 0, []), (.nop, 0, 0, []), (.aload_n 0, 1, 13, [0]), (.sipush 1601, 3, 16, [1601]), (.nop, 0, 0, []), (.nop, 0, 0, []), (.newarray .int, 2, 18, []), (.nop, 0, 0, []), (.putfield 15, 3, 21, [9, 1, 2, 218]), (.nop, 0, 0, []), (.nop, 0, 0, []), (.aload_n 0, 1, 22, [0]), (.sipush 1601, 3, 25, [1601]), (.nop, 0, 0, []), (.nop, 0, 0, []), (.newarray .int, 2, 27, []), (.nop, 0, 0, []), (.putfield 19, 3, 30, [9, 2, 2, 219]), (.nop, 0, 0, []), (.nop, 0, 0, []), (.aload_n 0, 1, 31, [0]), (.sipush 1601, 3, 34, [1601]), (.nop, 0, 0, []), (.nop, 0, 0, []), (.newarray .long, 2, 36, []), (.nop, 0, 0, []), (.putfield 22, 3, 39, [9, 3, 2, 220]), (.nop, 0, 0, []), (.nop, 0, 0, []), (.iconst 0, 1, 40, [0]), (.istore_n 1, 1, 41, [1]), (.iload_n 1, 1, 42, [1]), (.bipush 16, 2, 44, [16]), (.nop, 0, 0, []), (.if_icmp .ge 40, 3, 47, [84]), (.nop, 0, 0, []), (.nop, 0, 0, []), (.iload_n 1, 1, 48, [1]), (.bipush 8, 2, 50, [8]), (.nop, 0, 0, []), (.if_icmp .ge 8, 3, 53, [58]), (.nop, 0, 0, []), (.nop, 0, 0, []), (.ldc 25, 2, 55, [1, 2, 0]), (.nop, 0, 0, []), (.goto 5, 3, 58, [60]), (.nop, 0, 0, []), (.nop, 0, 0, []), (.ldc 27, 2, 60, [1, 3, 0]), (.nop, 0, 0, []), (.astore_n 2, 1, 61, [2]), (.aload_n 0, 1, 62, [0]), (.getfield 11, 3, 65, [0, 9, 0, 217]), (.nop, 0, 0, []), (.nop, 0, 0, []), (.iload_n 1, 1, 66, [1]), (.aload_n 2, 1, 67, [2]), (.iload_n 1, 1, 68, [1]), (.bipush 8, 2, 70, [8]), (.nop, 0, 0, []), (.irem, 1, 71, []), (.bipush 8, 2, 73, [8]), (.nop, 0, 0, []), (.imul, 1, 74, []), (.invokestatic 29, 3, 77, [2, 0, 9, 107, 0, 0, 159, 160, 0, 118, 5, 1, 0]), (.nop, 0, 0, []), (.nop, 0, 0, []), (.lastore, 1, 78, []), (.iinc 1 1, 3, 81, [1, 1]), (.nop, 0, 0, []), (.nop, 0, 0, []), (.goto (-40), 3, 84, [41]), (.nop, 0, 0, []), (.nop, 0, 0, []), (.return_, 1, 85, [])]
noncomputable def zx_c103 : List zx_RI := [(.iload_n 0, 1, 1, [0]), (.bipush 97, 2, 3, [97]), (.nop, 0, 0, []), (.if_icmp .lt 13, 3, 6, [16]), (.nop, 0, 0, []), (.nop, 0, 0, []), (.iload_n 0, 1, 7, [0]), (.bipush 122, 2, 9, [122]), (.nop, 0, 0, []), (.if_icmp .gt 7, 3, 12, [16]), (.nop, 0, 0, []), (.nop, 0, 0, []), (.iconst 1, 1, 13, [1]), (.goto 4, 3, 16, [17]), (.nop, 0, 0, []), (.nop, 0, 0, []), (.iconst 0, 1, 17, [0]), (.ireturn, 1, 18, [1])]
noncomputable def zx_c104 : List zx_RI := [(.iload_n 1, 1, 1, [1]), (.ifCond .lt 20, 3, 4, [21]), (.nop, 0, 0, []), (.nop, 0, 0, []), (.iload_n 1, 1, 5, [1]), (.aload_n 0, 1, 6, [0]), (.getfield 33, 3, 9, [0, 9, 4, 221]), (.nop, 0, 0, []), (.nop, 0, 0, []), (.if_icmp .ge 12, 3, 12, [21]), (.nop, 0, 0, []), (.nop, 0, 0, []), (.nop, 0, 0, []), (.nop, 0, 0, []), (.nop, 0, 0, []), (.nop, 0, 0, []), (.nop, 0, 0, []), (.nop, 0, 0, []), (.nop, 0, 0, []), (.nop, 0, 0, []), (.nop, 0, 0, []), (.sipush 256, 3, 24, [256]), (.nop, 0, 0, []), (.nop, 0, 0, []), (.ireturn, 1, 25, [0])]
noncomputable def zx_c105 : List zx_RI := [(.iload_n 0, 1, 1, [0]), (.bipush 97, 2, 3, [97]), (.nop, 0, 0, []), (.isub, 1, 4, []), (.iconst 1, 1, 5, [1]), (.iadd, 1, 6, []), (.ireturn, 1, 7, [0])]
noncomputable def zx_c106 : List zx_RI := [(.aload_n 0, 1, 1, [0]), (.aload_n 1, 1, 2, [1]), (.putfield 40, 3, 5, [9, 5, 2, 222]), (.nop, 0, 0, []), (.nop, 0, 0, []), (.aload_n 0, 1, 6, [0]), (.iconst 0, 1, 7, [0]), (.iload_n 2, 1, 8, [2]), (.aload_n 1, 1, 9, [1]), (.arraylength, 1, 10, []), (.sipush 1600, 3, 13, [1600]), (.nop, 0, 0, []), (.nop, 0, 0, []), (.invokestatic 44, 3, 16, [5, 711, 616, 617, 128]), (.nop, 0, 0, []), (.nop, 0, 0, []), (.invokestatic 44, 3, 19, [5, 711, 616, 617, 128]), (.nop, 0, 0, []), (.nop, 0, 0, []), (.invokestatic 50, 3, 22, [4, 712, 427, 428, 128]), (.nop, 0, 0, []), (.nop, 0, 0, []), (.putfield 37, 3, 25, [9, 6, 0, 223]), (.nop, 0, 0, []), (.nop, 0, 0, []), (.aload_n 0, 1, 26, [0]), (.iconst 0, 1, 27, [0]), (.putfield 33, 3, 30, [9, 4, 0, 221]), (.nop, 0, 0, []), (.nop, 0, 0, []), (.aload_n 0, 1, 31, [0]), (.iconst 0, 1, 32, [0]), (.putfield 53, 3, 35, [9, 7, 0, 224]), (.nop, 0, 0, []), (.nop, 0, 0, []), (.iconst 1, 1, 36, [1]), (.istore_n 3, 1, 37, [3]), (.iconst 0, 1, 38, [0]), (.istore 4, 2, 40, [4]), (.nop, 0, 0, []), (.iload 4, 2, 42, [4]), (.nop, 0, 0, []), (.aload_n 0, 1, 43, [0]), (.getfield 37, 3, 46, [0, 9, 6, 223]), (.nop, 0, 0, []), (.nop, 0, 0, []), (.if_icmp .gt 62, 3, 49, [108]), (.nop, 0, 0, []), (.nop, 0, 0, []), (.aload_n 0, 1, 50, [0]), (.getfield 53, 3, 53, [0, 9, 7, 224]), (.nop, 0, 0, []), (.nop, 0, 0, []), (.aload_n 0, 1, 54, [0]), (.getfield 37, 3, 57, [0, 9, 6, 223]), (.nop, 0, 0, []), (.nop, 0, 0, []), (.if_icmp .ge 51, 3, 60, [108]), (.nop, 0, 0, []), (.nop, 0, 0, []), (.nop, 0, 0, []), (.nop, 0, 0, []), (.nop, 0, 0, []), (.nop, 0, 0, []), (.nop, 0, 0, []), (.nop, 0, 0, []), (.nop, 0, 0, []), (.nop, 0, 0, []), (.nop, 0, 0, []), (.nop, 0, 0, []), (.nop, 0, 0, []), (.nop, 0, 0, []), (.nop, 0, 0, []), (.nop, 0, 0, []), (.nop, 0, 0, []), (.nop, 0, 0, []), (.nop, 0, 0, []), (.nop, 0, 0, []), (.nop, 0, 0, []), (.nop, 0, 0, []), (.nop, 0, 0, []), (.nop, 0, 0, []), (.nop, 0, 0, []), (.nop, 0, 0, []), (.nop, 0, 0, []), (.nop, 0, 0, []), (.nop, 0, 0, []), (.nop, 0, 0, []), (.nop, 0, 0, []), (.nop, 0, 0, []), (.nop, 0, 0, []), (.nop, 0, 0, []), (.nop, 0, 0, []), (.nop, 0, 0, []), (.nop, 0, 0, []), (.nop, 0, 0, []), (.nop, 0, 0, []), (.nop, 0, 0, []), (.nop, 0, 0, []), (.nop, 0, 0, []), (.nop, 0, 0, []), (.nop, 0, 0, []), (.nop, 0, 0, []), (.nop, 0, 0, []), (.nop, 0, 0, []), (.nop, 0, 0, []), (.nop, 0, 0, []), (.nop, 0, 0, []), (.return_, 1, 109, [])]
noncomputable def zx_c107 : List zx_RI := [(.lconst 0, 1, 1, [0]), (.lstore_n 2, 1, 2, [2]), (.iload_n 1, 1, 3, [1]), (.istore 4, 2, 5, [4]), (.nop, 0, 0, []), (.iload 4, 2, 7, [4]), (.nop, 0, 0, []), (.iload_n 1, 1, 8, [1]), (.bipush 8, 2, 10, [8]), (.nop, 0, 0, []), (.iadd, 1, 11, []), (.if_icmp .ge 47, 3, 14, [58]), (.nop, 0, 0, []), (.nop, 0, 0, []), (.iload 4, 2, 16, [4]), (.nop, 0, 0, []), (.aload_n 0, 1, 17, [0]), (.invokevirtual 100, 3, 20, [2, 1, 0, 194, 0, 0, 162, 163, 164, 119, 1, 0]), (.nop, 0, 0, []), (.nop, 0, 0, []), (.if_icmp .ge 38, 3, 23, [58]), (.nop, 0, 0, []), (.nop, 0, 0, []), (.aload_n 0, 1, 24, [0]), (.iload 4, 2, 26, [4]), (.nop, 0, 0, []), (.invokevirtual 103, 3, 29, [2, 1, 0, 190, 0, 0, 172, 173, 174, 119, 2, 1, 0]), (.nop, 0, 0, []), (.nop, 0, 0, []), (.invokestatic 67, 3, 32, [2, 0, 9, 103, 0, 0, 210, 211, 0, 118, 1, 0]), (.nop, 0, 0, []), (.nop, 0, 0, []), (.ifCond .eq 20, 3, 35, [52]), (.nop, 0, 0, []), (.nop, 0, 0, []), (.lload_n 2, 1, 36, [2]), (.ldc2_w 91, 3, 39, [32, 213]), (.nop, 0, 0, []), (.nop, 0, 0, []), (.lmul, 1, 40, []), (.aload_n 0, 1, 41, [0]), (.iload 4, 2, 43, [4]), (.nop, 0, 0, []), (.invokevirtual 103, 3, 46, [2, 1, 0, 190, 0, 0, 172, 173, 174, 119, 2, 1, 0]), (.nop, 0, 0, []), (.nop, 0, 0, []), (.invokestatic 93, 3, 49, [2, 0, 9, 105, 0, 0, 214, 215, 0, 118, 1, 0]), (.nop, 0, 0, []), (.nop, 0, 0, []), (.i2l, 1, 50, []), (.ladd, 1, 51, []), (.lstore_n 2, 1, 52, [2]), (.iinc 4 1, 3, 55, [4, 1]), (.nop, 0, 0, []), (.nop, 0, 0, []), (.goto (-50), 3, 58, [5]), (.nop, 0, 0, []), (.nop, 0, 0, []), (.lload_n 2, 1, 59, [2]), (.lreturn, 1, 60, [])]
noncomputable def zx_c108 : List zx_RI := [(.aload_n 0, 1, 1, [0]), (.invokespecial 3, 3, 4, [0, 271]), (.nop, 0, 0, []), (.nop, 0, 0, []), (.aload_n 0, 1, 5, [0]), (.iconst 5, 1, 6, [5]), (.newarray .long, 2, 8, []), (.nop, 0, 0, []), (.putfield 9, 3, 11, [10, 6, 2, 324]), (.nop, 0, 0, []), (.nop, 0, 0, []), (.aload_n 0, 1, 12, [0]), (.iconst 5, 1, 13, [5]), (.newarray .long, 2, 15, []), (.nop, 0, 0, []), (.putfield 15, 3, 18, [10, 7, 2, 326]), (.nop, 0, 0, []), (.nop, 0, 0, []), (.aload_n 0, 1, 19, [0]), (.iconst 5, 1, 20, [5]), (.newarray .int, 2, 22, []), (.nop, 0, 0, []), (.putfield 18, 3, 25, [10, 8, 2, 328]), (.nop, 0, 0, []), (.nop, 0, 0, []), (.aload_n 0, 1, 26, [0]), (.iconst 5, 1, 27, [5]), (.newarray .int, 2, 29, []), (.nop, 0, 0, []), (.putfield 22, 3, 32, [10, 9, 2, 332]), (.nop, 0, 0, []), (.nop, 0, 0, []), (.aload_n 0, 1, 33, [0]), (.iconst 5, 1, 34, [5]), (.newarray .int, 2, 36, []), (.nop, 0, 0, []), (.putfield 25, 3, 39, [10, 10, 2, 334]), (.nop, 0, 0, []), (.nop, 0, 0, []), (.aload_n 0, 1, 40, [0]), (.iconst 5, 1, 41, [5]), (.newarray .int, 2, 43, []), (.nop, 0, 0, []), (.putfield 28, 3, 46, [10, 11, 2, 336]), (.nop, 0, 0, []), (.nop, 0, 0, []), (.aload_n 0, 1, 47, [0]), (.new 31, 3, 50, [1, 7, 272, 273, 124]), (.nop, 0, 0, []), (.nop, 0, 0, []), (.dup, 1, 51, []), (.invokespecial 33, 3, 54, [2, 2, 1, 60, 4, 670, 274, 275, 0, 124, 1, 0]), (.nop, 0, 0, []), (.nop, 0, 0, []), (.putfield 34, 3, 57, [10, 12, 2, 339]), (.nop, 0, 0, []), (.nop, 0, 0, []), (.return_, 1, 58, [])]
noncomputable def zx_c109 : List zx_RI := [(.aload_n 0, 1, 1, [0]), (.iconst 0, 1, 2, [0]), (.putfield 38, 3, 5, [10, 0, 0, 303]), (.nop, 0, 0, []), (.nop, 0, 0, []), (.aload_n 0, 1, 6, [0]), (.iconst 0, 1, 7, [0]), (.putfield 42, 3, 10, [10, 1, 0, 308]), (.nop, 0, 0, []), (.nop, 0, 0, []), (.aload_n 0, 1, 11, [0]), (.iconst 0, 1, 12, [0]), (.putfield 45, 3, 15, [10, 2, 0, 313]), (.nop, 0, 0, []), (.nop, 0, 0, []), (.aload_n 0, 1, 16, [0]), (.iconst 0, 1, 17, [0]), (.putfield 48, 3, 20, [10, 3, 0, 317]), (.nop, 0, 0, []), (.nop, 0, 0, []), (.aload_n 0, 1, 21, [0]), (.iconst 0, 1, 22, [0]), (.putfield 51, 3, 25, [10, 4, 1, 320]), (.nop, 0, 0, []), (.nop, 0, 0, []), (.aload_n 0, 1, 26, [0]), (.iconst 0, 1, 27, [0]), (.putfield 55, 3, 30, [10, 5, 1, 322]), (.nop, 0, 0, []), (.nop, 0, 0, []), (.aload_n 0, 1, 31, [0]), (.getfield 34, 3, 34, [0, 10, 12, 339]), (.nop, 0, 0, []), (.nop, 0, 0, []), (.invokevirtual 58, 3, 37, [2, 2, 1, 61, 0, 0, 703, 704, 705, 124, 1, 0]), (.nop, 0, 0, []), (.nop, 0, 0, []), (.return_, 1, 38, [])]
noncomputable def zx_c110 : List zx_RI := [(.aload_n 0, 1, 1, [0]), (.invokespecial 1, 3, 4, [0, 1364]), (.nop, 0, 0, []), (.nop, 0, 0, []), (.aload_n 0, 1, 5, [0]), (.sipush 1620, 3, 8, [1620]), (.nop, 0, 0, []), (.nop, 0, 0, []), (.newarray .byte, 2, 10, []), (.nop, 0, 0, []), (.putfield 7, 3, 13, [12, 0, 2, 1385]), (.nop, 0, 0, []), (.nop, 0, 0, []), (.aload_n 0, 1, 14, [0]), (.sipush 1600, 3, 17, [1600]), (.nop, 0, 0, []), (.nop, 0, 0, []), (.newarray .byte, 2, 19, []), (.nop, 0, 0, []), (.putfield 13, 3, 22, [12, 1, 2, 1386]), (.nop, 0, 0, []), (.nop, 0, 0, []), (.aload_n 0, 1, 23, [0]), (.iconst (-1), 1, 24, [4294967295]), (.putfield 16, 3, 27, [12, 5, 0, 1390]), (.nop, 0, 0, []), (.nop, 0, 0, []), (.aload_n 0, 1, 28, [0]), (.iconst 2, 1, 29, [2]), (.newarray .int, 2, 31, []), (.nop, 0, 0, []), (.putfield 20, 3, 34, [12, 11, 2, 1396]), (.nop, 0, 0, []), (.nop, 0, 0, []), (.aload_n 0, 1, 35, [0]), (.iconst 2, 1, 36, [2]), (.newarray .int, 2, 38, []), (.nop, 0, 0, []), (.putfield 24, 3, 41, [12, 12, 2, 1397]), (.nop, 0, 0, []), (.nop, 0, 0, []), (.aload_n 0, 1, 42, [0]), (.iconst 2, 1, 43, [2]), (.newarray .int, 2, 45, []), (.nop, 0, 0, []), (.putfield 27, 3, 48, [12, 13, 2, 1398]), (.nop, 0, 0, []), (.nop, 0, 0, []), (.aload_n 0, 1, 49, [0]), (.iconst 2, 1, 50, [2]), (.newarray .int, 2, 52, []), (.nop, 0, 0, []), (.putfield 30, 3, 55, [12, 14, 2, 1399]), (.nop, 0, 0, []), (.nop, 0, 0, []), (.aload_n 0, 1, 56, [0]), (.iconst 2, 1, 57, [2]), (.newarray .int, 2, 59, []), (.nop, 0, 0, []), (.putfield 33, 3, 62, [12, 15, 2, 1400]), (.nop, 0, 0, []), (.nop, 0, 0, []), (.aload_n 0, 1, 63, [0]), (.iconst 2, 1, 64, [2]), (.newarray .int, 2, 66, []), (.nop, 0, 0, []), (.putfield 36, 3, 69, [12, 16, 2, 1401]), (.nop, 0, 0, []), (.nop, 0, 0, []), (.aload_n 0, 1, 70, [0]), (.bipush 10, 2, 72, [10]), (.nop, 0, 0, []), (.newarray .int, 2, 74, []), (.nop, 0, 0, []), (.putfield 39, 3, 77, [12, 17, 2, 1402]), (.nop, 0, 0, []), (.nop, 0, 0, []), (.aload_n 0, 1, 78, [0]), (.bipush 10, 2, 80, [10]), (.nop, 0, 0, []), (.newarray .int, 2, 82, []), (.nop, 0, 0, []), (.putfield 42, 3, 85, [12, 18, 2, 1403]), (.nop, 0, 0, []), (.nop, 0, 0, []), (.aload_n 0, 1, 86, [0]), (.bipush 10, 2, 88, [10]), (.nop, 0, 0, []), (.newarray .int, 2, 90, []), (.nop, 0, 0, []), (.putfield 45, 3, 93, [12, 19, 2, 1404]), (.nop, 0, 0, []), (.nop, 0, 0, []), (.aload_n 0, 1, 94, [0]), (.bipush 10, 2, 96, [10]), (.nop, 0, 0, []), (.newarray .int, 2, 98, []), (.nop, 0, 0, []), (.putfield 48, 3, 101, [12, 20, 2, 1405]), (.nop, 0, 0, []), (.nop, 0, 0, []), (.aload_n 0, 1, 102, [0]), (.iconst 2, 1, 103, [2]), (.newarray .int, 2, 105, []), (.nop, 0, 0, []), (.putfield 51, 3, 108, [12, 21, 2, 1406]), (.nop, 0, 0, []), (.nop, 0, 0, []), (.aload_n 0, 1, 109, [0]), (.iconst 2, 1, 110, [2]), (.newarray .int, 2, 112, []), (.nop, 0, 0, []), (.putfield 54, 3, 115, [12, 22, 2, 1407]), (.nop, 0, 0, []), (.nop, 0, 0, []), (.aload_n 0, 1, 116, [0]), (.bipush 10, 2, 118, [10]), (.nop, 0, 0, []), (.newarray .long, 2, 120, []), (.nop, 0, 0, []), (.putfield 57, 3, 123, [12, 23, 2, 1408]), (.nop, 0, 0, []), (.nop, 0, 0, []), (.aload_n 0, 1, 124, [0]), (.bipush 10, 2, 126, [10]), (.nop, 0, 0, []), (.newarray .long, 2, 128, []), (.nop, 0, 0, []), (.putfield 61, 3, 131, [12, 24, 2, 1409]), (.nop, 0, 0, []), (.nop, 0, 0, []), (.aload_n 0, 1, 132, [0]), (.sipush 1120, 3, 135, [1120]), (.nop, 0, 0, []), (.nop, 0, 0, []), (.newarray .int, 2, 137, []), (.nop, 0, 0, []), (.putfield 64, 3, 140, [12, 25, 2, 1410]), (.nop, 0, 0, []), (.nop, 0, 0, []), (.aload_n 0, 1, 141, [0]), (.sipush 1120, 3, 144, [1120]), (.nop, 0, 0, []), (.nop, 0, 0, []), (.newarray .int, 2, 146, []), (.nop, 0, 0, []), (.putfield 67, 3, 149, [12, 26, 2, 1411]), (.nop, 0, 0, []), (.nop, 0, 0, []), (.aload_n 0, 1, 150, [0]), (.bipush 90, 2, 152, [90]), (.nop, 0, 0, []), (.newarray .int, 2, 154, []), (.nop, 0, 0, []), (.putfield 70, 3, 157, [12, 27, 2, 1412]), (.nop, 0, 0, []), (.nop, 0, 0, []), (.aload_n 0, 1, 158, [0]), (.bipush 90, 2, 160, [90]), (.nop, 0, 0, []), (.newarray .int, 2, 162, []), (.nop, 0, 0, []), (.putfield 73, 3, 165, [12, 28, 2, 1413]), (.nop, 0, 0, []), (.nop, 0, 0, []), (.aload_n 0, 1, 166, [0]), (.bipush 60, 2, 168, [60]), (.nop, 0, 0, []), (.newarray .int, 2, 170, []), (.nop, 0, 0, []), (.putfield 76, 3, 173, [12, 29, 2, 1414]), (.nop, 0, 0, []), (.nop, 0, 0, []), (.aload_n 0, 1, 174, [0]), (.bipush 32, 2, 176, [32]), (.nop, 0, 0, []), (.newarray .int, 2, 178, []), (.nop, 0, 0, []), (.putfield 79, 3, 181, [12, 40, 2, 1425]), (.nop, 0, 0, []), (.nop, 0, 0, []), (.aload_n 0, 1, 182, [0]), (.bipush 32, 2, 184, [32]), (.nop, 0, 0, []), (.newarray .int, 2, 186, []), (.nop, 0, 0, []), (.putfield 82, 3, 189, [12, 41, 2, 1426]), (.nop, 0, 0, []), (.nop, 0, 0, []), (.aload_n 0, 1, 190, [0]), (.iconst (-1), 1, 191, [4294967295]), (.putfield 85, 3, 194, [12, 42, 0, 1427]), (.nop, 0, 0, []), (.nop, 0, 0, []), (.aload_n 0, 1, 195, [0]), (.sipush 1312, 3, 198, [1312]), (.nop, 0, 0, []), (.nop, 0, 0, []), (.newarray .int, 2, 200, []), (.nop, 0, 0, []), (.putfield 88, 3, 203, [12, 43, 2, 1428]), (.nop, 0, 0, []), (.nop, 0, 0, []), (.aload_n 0, 1, 204, [0]), (.bipush 64, 2, 206, [64]), (.nop, 0, 0, []), (.newarray .int, 2, 208, []), (.nop, 0, 0, []), (.putfield 91, 3, 211, [12, 46, 2, 1431]), (.nop, 0, 0, []), (.nop, 0, 0, []), (.aload_n 0, 1, 212, [0]), (.bipush 64, 2, 214, [64]), (.nop, 0, 0, []), (.newarray .int, 2, 216, []), (.nop, 0, 0, []), (.putfield 94, 3, 219, [12, 48, 2, 1433]), (.nop, 0, 0, []), (.nop, 0, 0, []), (.aload_n 0, 1, 220, [0]), (.sipush 155, 3, 223, [155]), (.nop, 0, 0, []), (.nop, 0, 0, []), (.newarray .int, 2, 225, []), (.nop, 0, 0, []), (.putfield 97, 3, 228, [12, 49, 2, 1434]), (.nop, 0, 0, []), (.nop, 0, 0, []), (.aload_n 0, 1, 229, [0]), (.bipush 30, 2, 231, [30]), (.nop, 0, 0, []), (.newarray .int, 2, 233, []), (.nop, 0, 0, []), (.putfield 100, 3, 236, [12, 50, 2, 1435]), (.nop, 0, 0, []), (.nop, 0, 0, []), (.aload_n 0, 1, 237, [0]), (.bipush 30, 2, 239, [30]), (.nop, 0, 0, []), (.newarray .int, 2, 241, []), (.nop, 0, 0, []), (.putfield 103, 3, 244, [12, 51, 2, 1436]), (.nop, 0, 0, []), (.nop, 0, 0, []), (.aload_n 0, 1, 245, [0]), (.bipush 30, 2, 247, [30]), (.nop, 0, 0, []), (.newarray .int, 2, 249, []), (.nop, 0, 0, []), (.putfield 106, 3, 252, [12, 52, 2, 1437]), (.nop, 0, 0, []), (.nop, 0, 0, []), (.aload_n 0, 1, 253, [0]), (.bipush 30, 2, 255, [30]), (.nop, 0, 0, []), (.newarray .int, 2, 257, []), (.nop, 0, 0, []), (.putfield 109, 3, 260, [12, 53, 2, 1438]), (.nop, 0, 0, []), (.nop, 0, 0, []), (.aload_n 0, 1, 261, [0]), (.bipush 30, 2, 263, [30]), (.nop, 0, 0, []), (.newarray .int, 2, 265, []), (.nop, 0, 0, []), (.putfield 112, 3, 268, [12, 54, 2, 1439]), (.nop, 0, 0, []), (.nop, 0, 0, []), (.aload_n 0, 1, 269, [0]), (.bipush 100, 2, 271, [100]), (.nop, 0, 0, []), (.newarray .int, 2, 273, []), (.nop, 0, 0, []), (.putfield 115, 3, 276, [12, 55, 2, 1440]), (.nop, 0, 0, []), (.nop, 0, 0, []), (.aload_n 0, 1, 277, [0]), (.bipush 96, 2, 279, [96]), (.nop, 0, 0, []), (.newarray .int, 2, 281, []), (.nop, 0, 0, []), (.putfield 118, 3, 284, [12, 58, 2, 1443]), (.nop, 0, 0, []), (.nop, 0, 0, []), (.aload_n 0, 1, 285, [0]), (.iconst 3, 1, 286, [3]), (.newarray .boolean, 2, 288, []), (.nop, 0, 0, []), (.putfield 121, 3, 291, [12, 59, 2, 1444]), (.nop, 0, 0, []), (.nop, 0, 0, []), (.aload_n 0, 1, 292, [0]), (.invokevirtual 125, 3, 295, [2, 2, 12, 122, 0, 0, 1365, 1367, 48, 134, 1, 0]), (.nop, 0, 0, []), (.nop, 0, 0, []), (.aload_n 0, 1, 296, [0]), (.invokevirtual 128, 3, 299, [2, 2, 12, 176, 0, 0, 1369, 1371, 49, 134, 2, 0]), (.nop, 0, 0, []), (.nop, 0, 0, []), (.return_, 1, 300, [])]
noncomputable def zx_c111 : List zx_RI := [(.iload_n 1, 1, 1, [1]), (.tableswitch 157 0 13 #[71, 76, 81, 86, 91, 99, 107, 112, 117, 122, 127, 132, 142, 147], 71, 72, [158, 72, 77, 82, 87, 92, 100, 108, 113, 118, 123, 128, 133, 143, 148]), (.nop, 0, 0, []), (.nop, 0, 0, []), (.nop, 0, 0, []), (.nop, 0, 0, []), (.nop, 0, 0, []), (.nop, 0, 0, []), (.nop, 0, 0, []), (.nop, 0, 0, []), (.nop, 0, 0, []), (.nop, 0, 0, []), (.nop, 0, 0, []), (.nop, 0, 0, []), (.nop, 0, 0, []), (.nop, 0, 0, []), (.nop, 0, 0, []), (.nop, 0, 0, []), (.nop, 0, 0, []), (.nop, 0, 0, []), (.nop, 0, 0, []), (.nop, 0, 0, []), (.nop, 0, 0, []), (.nop, 0, 0, []), (.nop, 0, 0, []), (.nop, 0, 0, []), (.nop, 0, 0, []), (.nop, 0, 0, []), (.nop, 0, 0, []), (.nop, 0, 0, []), (.nop, 0, 0, []), (.nop, 0, 0, []), (.nop, 0, 0, []), (.nop, 0, 0, []), (.nop, 0, 0, []), (.nop, 0, 0, []), (.nop, 0, 0, []), (.nop, 0, 0, []), (.nop, 0, 0, []), (.nop, 0, 0, []), (.nop, 0, 0, []), (.nop, 0, 0, []), (.nop, 0, 0, []), (.nop, 0, 0, []), (.nop, 0, 0, []), (.nop, 0, 0, []), (.nop, 0, 0, []), (.nop, 0, 0, []), (.nop, 0, 0, []), (.nop, 0, 0, []), (.nop, 0, 0, []), (.nop, 0, 0, []), (.nop, 0, 0, []), (.nop, 0, 0, []), (.nop, 0, 0, []), (.nop, 0, 0, []), (.nop, 0, 0, []), (.nop, 0, 0, []), (.nop, 0, 0, []), (.nop, 0, 0, []), (.nop, 0, 0, []), (.nop, 0, 0, []), (.nop, 0, 0, []), (.nop, 0, 0, []), (.nop, 0, 0, []), (.nop, 0, 0, []), (.nop, 0, 0, []), (.nop, 0, 0, []), (.nop, 0, 0, []), (.nop, 0, 0, []), (.nop, 0, 0, []), (.nop, 0, 0, []), (.aload_n 0, 1, 73, [0]), (.invokevirtual 346, 3, 76, [2, 2, 12, 132, 0, 0, 1381, 1383, 52, 134, 1, 0]), (.nop, 0, 0, []), (.nop, 0, 0, []), (.ireturn, 1, 77, [0]), (.aload_n 0, 1, 78, [0]), (.invokevirtual 339, 3, 81, [2, 2, 12, 170, 0, 0, 1377, 1379, 51, 134, 1, 0]), (.nop, 0, 0, []), (.nop, 0, 0, []), (.ireturn, 1, 82, [0]), (.aload_n 0, 1, 83, [0]), (.invokevirtual 426, 3, 86, [2, 2, 12, 158, 0, 0, 1912, 1914, 100, 134, 3, 0]), (.nop, 0, 0, []), (.nop, 0, 0, []), (.ireturn, 1, 87, [0]), (.aload_n 0, 1, 88, [0]), (.invokevirtual 398, 3, 91, [2, 2, 12, 178, 0, 0, 1797, 1799, 92, 134, 1, 0]), (.nop, 0, 0, []), (.nop, 0, 0, []), (.ireturn, 1, 92, [0]), (.aload_n 0, 1, 93, [0]), (.getfield 79, 3, 96, [0, 12, 40, 1425]), (.nop, 0, 0, []), (.nop, 0, 0, []), (.bipush 30, 2, 98, [30]), (.nop, 0, 0, []), (.iaload, 1, 99, []), (.ireturn, 1, 100, [0]), (.aload_n 0, 1, 101, [0]), (.getfield 79, 3, 104, [0, 12, 40, 1425]), (.nop, 0, 0, []), (.nop, 0, 0, []), (.bipush 31, 2, 106, [31]), (.nop, 0, 0, []), (.iaload, 1, 107, []), (.ireturn, 1, 108, [0]), (.aload_n 0, 1, 109, [0]), (.getfield 358, 3, 112, [0, 12, 44, 1429]), (.nop, 0, 0, []), (.nop, 0, 0, []), (.ireturn, 1, 113, [0]), (.aload_n 0, 1, 114, [0]), (.getfield 361, 3, 117, [0, 12, 45, 1430]), (.nop, 0, 0, []), (.nop, 0, 0, []), (.ireturn, 1, 118, [0]), (.aload_n 0, 1, 119, [0]), (.getfield 364, 3, 122, [0, 12, 56, 1441]), (.nop, 0, 0, []), (.nop, 0, 0, []), (.ireturn, 1, 123, [0]), (.aload_n 0, 1, 124, [0]), (.getfield 474, 3, 127, [0, 12, 57, 1442]), (.nop, 0, 0, []), (.nop, 0, 0, []), (.ireturn, 1, 128, [0]), (.aload_n 0, 1, 129, [0]), (.getfield 233, 3, 132, [0, 12, 2, 1387]), (.nop, 0, 0, []), (.nop, 0, 0, []), (.ireturn, 1, 133, [0]), (.aload_n 0, 1, 134, [0]), (.getfield 27, 3, 137, [0, 12, 13, 1398]), (.nop, 0, 0, []), (.nop, 0, 0, []), (.aload_n 0, 1, 138, [0]), (.getfield 236, 3, 141, [0, 12, 30, 1415]), (.nop, 0, 0, []), (.nop, 0, 0, []), (.iaload, 1, 142, []), (.ireturn, 1, 143, [0]), (.aload_n 0, 1, 144, [0]), (.getfield 367, 3, 147, [0, 12, 47, 1432]), (.nop, 0, 0, []), (.nop, 0, 0, []), (.ireturn, 1, 148, [0]), (.aload_n 0, 1, 149, [0]), (.getfield 30, 3, 152, [0, 12, 14, 1399]), (.nop, 0, 0, []), (.nop, 0, 0, []), (.aload_n 0, 1, 153, [0]), (.getfield 236, 3, 156, [0, 12, 30, 1415]), (.nop, 0, 0, []), (.nop, 0, 0, []), (.iaload, 1, 157, []), (.ireturn, 1, 158, [0]), (.iconst (-1), 1, 159, [4294967295]), (.ireturn, 1, 160, [0])]
noncomputable def zx_c112 : List zx_RI := [(.iload_n 1, 1, 1, [1]), (.iconst 0, 1, 2, [0]), (.iconst 1, 1, 3, [1]), (.invokestatic 342, 3, 6, [2, 0, 12, 143, 0, 0, 1717, 1718, 0, 134, 3, 2, 1, 0]), (.nop, 0, 0, []), (.nop, 0, 0, []), (.ifCond .eq 18, 3, 9, [24]), (.nop, 0, 0, []), (.nop, 0, 0, []), (.aload_n 0, 1, 10, [0]), (.invokevirtual 339, 3, 13, [2, 2, 12, 170, 0, 0, 1377, 1379, 51, 134, 1, 0]), (.nop, 0, 0, []), (.nop, 0, 0, []), (.ifCond .eq 11, 3, 16, [24]), (.nop, 0, 0, []), (.nop, 0, 0, []), (.nop, 0, 0, []), (.nop, 0, 0, []), (.nop, 0, 0, []), (.nop, 0, 0, []), (.nop, 0, 0, []), (.nop, 0, 0, []), (.nop, 0, 0, []), (.nop, 0, 0, []), (.iconst (-1), 1, 25, [4294967295]), (.ireturn, 1, 26, [0])]
noncomputable def zx_c113 : List zx_RI := [(.iload_n 1, 1, 1, [1]), (.iconst 0, 1, 2, [0]), (.iconst 2, 1, 3, [2]), (.invokestatic 342, 3, 6, [2, 0, 12, 143, 0, 0, 1717, 1718, 0, 134, 3, 2, 1, 0]), (.nop, 0, 0, []), (.nop, 0, 0, []), (.ifCond .eq 12, 3, 9, [18]), (.nop, 0, 0, []), (.nop, 0, 0, []), (.aload_n 0, 1, 10, [0]), (.getfield 121, 3, 13, [0, 12, 59, 1444]), (.nop, 0, 0, []), (.nop, 0, 0, []), (.iload_n 1, 1, 14, [1]), (.baload, 1, 15, []), (.ifCond .ne 5, 3, 18, [20]), (.nop, 0, 0, []), (.nop, 0, 0, []), (.iconst (-1), 1, 19, [4294967295]), (.ireturn, 1, 20, [0])]
noncomputable def zx_c114 : List zx_RI := [(.aload_n 0, 1, 1, [0]), (.iconst 0, 1, 2, [0]), (.putfield 134, 3, 5, [12, 4, 0, 1389]), (.nop, 0, 0, []), (.nop, 0, 0, []), (.aload_n 0, 1, 6, [0]), (.iconst (-1), 1, 7, [4294967295]), (.putfield 16, 3, 10, [12, 5, 0, 1390]), (.nop, 0, 0, []), (.nop, 0, 0, []), (.aload_n 0, 1, 11, [0]), (.aload_n 0, 1, 12, [0]), (.getfield 233, 3, 15, [0, 12, 2, 1387]), (.nop, 0, 0, []), (.nop, 0, 0, []), (.putfield 131, 3, 18, [12, 3, 0, 1388]), (.nop, 0, 0, []), (.nop, 0, 0, []), (.iconst 0, 1, 19, [0]), (.istore_n 1, 1, 20, [1]), (.iload_n 1, 1, 21, [1]), (.aload_n 0, 1, 22, [0]), (.getfield 131, 3, 25, [0, 12, 3, 1388]), (.nop, 0, 0, []), (.nop, 0, 0, []), (.if_icmp .ge 21, 3, 28, [46]), (.nop, 0, 0, []), (.nop, 0, 0, []), (.nop, 0, 0, []), (.nop, 0, 0, []), (.nop, 0, 0, []), (.nop, 0, 0, []), (.nop, 0, 0, []), (.nop, 0, 0, []), (.nop, 0, 0, []), (.nop, 0, 0, []), (.nop, 0, 0, []), (.nop, 0, 0, []), (.nop, 0, 0, []), (.nop, 0, 0, []), (.nop, 0, 0, []), (.nop, 0, 0, []), (.nop, 0, 0, []), (.nop, 0, 0, []), (.nop, 0, 0, []), (.nop, 0, 0, []), (.aload_n 0, 1, 47, [0]), (.iconst 0, 1, 48, [0]), (.putfield 233, 3, 51, [12, 2, 0, 1387]), (.nop, 0, 0, []), (.nop, 0, 0, []), (.aload_n 0, 1, 52, [0]), (.iconst 0, 1, 53, [0]), (.putfield 169, 3, 56, [12, 7, 0, 1392]), (.nop, 0, 0, []), (.nop, 0, 0, []), (.aload_n 0, 1, 57, [0]), (.iconst 1, 1, 58, [1]), (.aload_n 0, 1, 59, [0]), (.getfield 236, 3, 62, [0, 12, 30, 1415]), (.nop, 0, 0, []), (.nop, 0, 0, []), (.isub, 1, 63, []), (.putfield 227, 3, 66, [12, 31, 0, 1416]), (.nop, 0, 0, []), (.nop, 0, 0, []), (.aload_n 0, 1, 67, [0]), (.invokevirtual 125, 3, 70, [2, 2, 12, 122, 0, 0, 1365, 1367, 48, 134, 1, 0]), (.nop, 0, 0, []), (.nop, 0, 0, []), (.aload_n 0, 1, 71, [0]), (.invokevirtual 211, 3, 74, [2, 2, 12, 135, 0, 0, 1570, 1572, 53, 134, 3, 0]), (.nop, 0, 0, []), (.nop, 0, 0, []), (.aload_n 0, 1, 75, [0]), (.invokevirtual 207, 3, 78, [2, 2, 12, 142, 0, 0, 1606, 1608, 55, 134, 1, 0]), (.nop, 0, 0, []), (.nop, 0, 0, []), (.ifCond .eq 17, 3, 81, [95]), (.nop, 0, 0, []), (.nop, 0, 0, []), (.aload_n 0, 1, 82, [0]), (.getfield 179, 3, 85, [0, 12, 8, 1393]), (.nop, 0, 0, []), (.nop, 0, 0, []), (.ifCond .eq 10, 3, 88, [95]), (.nop, 0, 0, []), (.nop, 0, 0, []), (.nop, 0, 0, []), (.nop, 0, 0, []), (.nop, 0, 0, []), (.nop, 0, 0, []), (.nop, 0, 0, []), (.nop, 0, 0, []), (.nop, 0, 0, []), (.aload_n 0, 1, 96, [0]), (.invokevirtual 207, 3, 99, [2, 2, 12, 142, 0, 0, 1606, 1608, 55, 134, 1, 0]), (.nop, 0, 0, []), (.nop, 0, 0, []), (.ifCond .ne 5, 3, 102, [104]), (.nop, 0, 0, []), (.nop, 0, 0, []), (.nop, 0, 0, []), (.nop, 0, 0, []), (.aload_n 0, 1, 105, [0]), (.aload_n 0, 1, 106, [0]), (.getfield 227, 3, 109, [0, 12, 31, 1416]), (.nop, 0, 0, []), (.nop, 0, 0, []), (.putfield 236, 3, 112, [12, 30, 0, 1415]), (.nop, 0, 0, []), (.nop, 0, 0, []), (.aload_n 0, 1, 113, [0]), (.invokevirtual 128, 3, 116, [2, 2, 12, 176, 0, 0, 1369, 1371, 49, 134, 2, 0]), (.nop, 0, 0, []), (.nop, 0, 0, []), (.aload_n 0, 1, 117, [0]), (.getfield 24, 3, 120, [0, 12, 12, 1397]), (.nop, 0, 0, []), (.nop, 0, 0, []), (.aload_n 0, 1, 121, [0]), (.getfield 236, 3, 124, [0, 12, 30, 1415]), (.nop, 0, 0, []), (.nop, 0, 0, []), (.iaload, 1, 125, []), (.ireturn, 1, 126, [0])]
noncomputable def zx_c115 : List zx_RI := [(.aload_n 0, 1, 1, [0]), (.iload_n 1, 1, 2, [1]), (.invokevirtual 352, 3, 5, [2, 2, 12, 144, 0, 0, 1736, 1738, 83, 134, 2, 1, 0]), (.nop, 0, 0, []), (.nop, 0, 0, []), (.ifCond .eq 12, 3, 8, [17]), (.nop, 0, 0, []), (.nop, 0, 0, []), (.nop, 0, 0, []), (.nop, 0, 0, []), (.nop, 0, 0, []), (.nop, 0, 0, []), (.nop, 0, 0, []), (.nop, 0, 0, []), (.nop, 0, 0, []), (.nop, 0, 0, []), (.nop, 0, 0, []), (.iconst (-1), 1, 18, [4294967295]), (.ireturn, 1, 19, [0])]
noncomputable def zx_c116 : List zx_RI := [(.iconst (-1), 1, 1, [4294967295]), (.istore_n 2, 1, 2, [2]), (.iconst (-1), 1, 3, [4294967295]), (.istore_n 3, 1, 4, [3]), (.aload_n 0, 1, 5, [0]), (.invokevirtual 426, 3, 8, [2, 2, 12, 158, 0, 0, 1912, 1914, 100, 134, 3, 0]), (.nop, 0, 0, []), (.nop, 0, 0, []), (.istore 4, 2, 10, [4]), (.nop, 0, 0, []), (.iconst 0, 1, 11, [0]), (.istore 5, 2, 13, [5]), (.nop, 0, 0, []), (.iload 5, 2, 15, [5]), (.nop, 0, 0, []), (.aload_n 0, 1, 16, [0]), (.invokevirtual 339, 3, 19, [2, 2, 12, 170, 0, 0, 1377, 1379, 51, 134, 1, 0]), (.nop, 0, 0, []), (.nop, 0, 0, []), (.iconst 1, 1, 20, [1]), (.iadd, 1, 21, []), (.aload_n 0, 1, 22, [0]), (.invokevirtual 346, 3, 25, [2, 2, 12, 132, 0, 0, 1381, 1383, 52, 134, 1, 0]), (.nop, 0, 0, []), (.nop, 0, 0, []), (.invokestatic 429, 3, 28, [2, 0, 12, 161, 0, 0, 1932, 1933, 0, 134, 4, 1, 0]), (.nop, 0, 0, []), (.nop, 0, 0, []), (.if_icmp .ge 104, 3, 31, [132]), (.nop, 0, 0, []), (.nop, 0, 0, []), (.aload_n 0, 1, 32, [0]), (.iload 5, 2, 34, [5]), (.nop, 0, 0, []), (.invokevirtual 435, 3, 37, [2, 2, 12, 120, 0, 0, 1935, 1937, 102, 134, 5, 1, 0]), (.nop, 0, 0, []), (.nop, 0, 0, []), (.istore 6, 2, 39, [6]), (.nop, 0, 0, []), (.iload 6, 2, 41, [6]), (.nop, 0, 0, []), (.ifCond .lt 85, 3, 44, [126]), (.nop, 0, 0, []), (.nop, 0, 0, []), (.iload 6, 2, 46, [6]), (.nop, 0, 0, []), (.iload 4, 2, 48, [4]), (.nop, 0, 0, []), (.iconst (-1), 1, 49, [4294967295]), (.ixor, 1, 50, []), (.iand, 1, 51, []), (.ifCond .ne 75, 3, 54, [126]), (.nop, 0, 0, []), (.nop, 0, 0, []), (.iload_n 1, 1, 55, [1]), (.ifCond .lt 20, 3, 58, [75]), (.nop, 0, 0, []), (.nop, 0, 0, []), (.nop, 0, 0, []), (.nop, 0, 0, []), (.nop, 0, 0, []), (.nop, 0, 0, []), (.nop, 0, 0, []), (.nop, 0, 0, []), (.nop, 0, 0, []), (.nop, 0, 0, []), (.nop, 0, 0, []), (.nop, 0, 0, []), (.nop, 0, 0, []), (.nop, 0, 0, []), (.nop, 0, 0, []), (.nop, 0, 0, []), (.nop, 0, 0, []), (.nop, 0, 0, []), (.nop, 0, 0, []), (.iconst 0, 1, 76, [0]), (.istore 7, 2, 78, [7]), (.nop, 0, 0, []), (.iconst 0, 1, 79, [0]), (.istore 8, 2, 81, [8]), (.nop, 0, 0, []), (.iload 8, 2, 83, [8]), (.nop, 0, 0, []), (.aload_n 0, 1, 84, [0]), (.invokevirtual 346, 3, 87, [2, 2, 12, 132, 0, 0, 1381, 1383, 52, 134, 1, 0]), (.nop, 0, 0, []), (.nop, 0, 0, []), (.if_icmp .ge 24, 3, 90, [111]), (.nop, 0, 0, []), (.nop, 0, 0, []), (.nop, 0, 0, []), (.nop, 0, 0, []), (.nop, 0, 0, []), (.nop, 0, 0, []), (.nop, 0, 0, []), (.nop, 0, 0, []), (.nop, 0, 0, []), (.nop, 0, 0, []), (.nop, 0, 0, []), (.nop, 0, 0, []), (.nop, 0, 0, []), (.nop, 0, 0, []), (.nop, 0, 0, []), (.nop, 0, 0, []), (.nop, 0, 0, []), (.nop, 0, 0, []), (.nop, 0, 0, []), (.nop, 0, 0, []), (.nop, 0, 0, []), (.nop, 0, 0, []), (.nop, 0, 0, []), (.iload 7, 2, 113, [7]), (.nop, 0, 0, []), (.iload_n 3, 1, 114, [3]), (.if_icmp .gt 6, 3, 117, [120]), (.nop, 0, 0, []), (.nop, 0, 0, []), (.nop, 0, 0, []), (.nop, 0, 0, []), (.nop, 0, 0, []), (.iload 5, 2, 122, [5]), (.nop, 0, 0, []), (.istore_n 2, 1, 123, [2]), (.iload 7, 2, 125, [7]), (.nop, 0, 0, []), (.istore_n 3, 1, 126, [3]), (.iinc 5 1, 3, 129, [5, 1]), (.nop, 0, 0, []), (.nop, 0, 0, []), (.goto (-116), 3, 132, [13]), (.nop, 0, 0, []), (.nop, 0, 0, []), (.iload_n 2, 1, 133, [2]), (.ireturn, 1, 134, [0])]
noncomputable def zx_c117 : List zx_RI := [(.iconst 0, 1, 1, [0]), (.istore_n 1, 1, 2, [1]), (.iload_n 1, 1, 3, [1]), (.bipush 32, 2, 5, [32]), (.nop, 0, 0, []), (.if_icmp .ge 21, 3, 8, [26]), (.nop, 0, 0, []), (.nop, 0, 0, []), (.aload_n 0, 1, 9, [0]), (.getfield 79, 3, 12, [0, 12, 40, 1425]), (.nop, 0, 0, []), (.nop, 0, 0, []), (.iload_n 1, 1, 13, [1]), (.aload_n 0, 1, 14, [0]), (.getfield 82, 3, 17, [0, 12, 41, 1426]), (.nop, 0, 0, []), (.nop, 0, 0, []), (.iload_n 1, 1, 18, [1]), (.iaload, 1, 19, []), (.iastore, 1, 20, []), (.iinc 1 1, 3, 23, [1, 1]), (.nop, 0, 0, []), (.nop, 0, 0, []), (.goto (-21), 3, 26, [2]), (.nop, 0, 0, []), (.nop, 0, 0, []), (.return_, 1, 27, [])]
noncomputable def zx_c118 : List zx_RI := [(.iconst 0, 1, 1, [0]), (.istore_n 1, 1, 2, [1]), (.iconst 0, 1, 3, [0]), (.istore_n 2, 1, 4, [2]), (.iload_n 2, 1, 5, [2]), (.aload_n 0, 1, 6, [0]), (.invokevirtual 346, 3, 9, [2, 2, 12, 132, 0, 0, 1381, 1383, 52, 134, 1, 0]), (.nop, 0, 0, []), (.nop, 0, 0, []), (.if_icmp .ge 49, 3, 12, [58]), (.nop, 0, 0, []), (.nop, 0, 0, []), (.nop, 0, 0, []), (.nop, 0, 0, []), (.nop, 0, 0, []), (.nop, 0, 0, []), (.nop, 0, 0, []), (.nop, 0, 0, []), (.nop, 0, 0, []), (.nop, 0, 0, []), (.nop, 0, 0, []), (.nop, 0, 0, []), (.nop, 0, 0, []), (.nop, 0, 0, []), (.nop, 0, 0, []), (.nop, 0, 0, []), (.nop, 0, 0, []), (.nop, 0, 0, []), (.nop, 0, 0, []), (.nop, 0, 0, []), (.nop, 0, 0, []), (.nop, 0, 0, []), (.nop, 0, 0, []), (.nop, 0, 0, []), (.nop, 0, 0, []), (.nop, 0, 0, []), (.nop, 0, 0, []), (.nop, 0, 0, []), (.nop, 0, 0, []), (.nop, 0, 0, []), (.nop, 0, 0, []), (.nop, 0, 0, []), (.nop, 0, 0, []), (.nop, 0, 0, []), (.nop, 0, 0, []), (.nop, 0, 0, []), (.nop, 0, 0, []), (.nop, 0, 0, []), (.nop, 0, 0, []), (.nop, 0, 0, []), (.nop, 0, 0, []), (.nop, 0, 0, []), (.nop, 0, 0, []), (.nop, 0, 0, []), (.nop, 0, 0, []), (.nop, 0, 0, []), (.nop, 0, 0, []), (.nop, 0, 0, []), (.iload_n 1, 1, 59, [1]), (.ireturn, 1, 60, [0])]
noncomputable def zx_c119 : List zx_RI := [(.aload_n 0, 1, 1, [0]), (.iload_n 1, 1, 2, [1]), (.invokevirtual 349, 3, 5, [2, 2, 12, 141, 0, 0, 1713, 1715, 79, 134, 2, 1, 0]), (.nop, 0, 0, []), (.nop, 0, 0, []), (.ifCond .ne 6, 3, 8, [11]), (.nop, 0, 0, []), (.nop, 0, 0, []), (.bipush (-2), 2, 10, [4294967294]), (.nop, 0, 0, []), (.ireturn, 1, 11, [0])]
noncomputable def zx_c120 : List zx_RI := [(.iconst 0, 1, 1, [0]), (.istore_n 2, 1, 2, [2]), (.iconst 0, 1, 3, [0]), (.istore_n 3, 1, 4, [3]), (.iload_n 3, 1, 5, [3]), (.aload_n 0, 1, 6, [0]), (.invokevirtual 346, 3, 9, [2, 2, 12, 132, 0, 0, 1381, 1383, 52, 134, 1, 0]), (.nop, 0, 0, []), (.nop, 0, 0, []), (.if_icmp .ge 47, 3, 12, [56]), (.nop, 0, 0, []), (.nop, 0, 0, []), (.nop, 0, 0, []), (.nop, 0, 0, []), (.nop, 0, 0, []), (.nop, 0, 0, []), (.nop, 0, 0, []), (.nop, 0, 0, []), (.nop, 0, 0, []), (.nop, 0, 0, []), (.nop, 0, 0, []), (.nop, 0, 0, []), (.nop, 0, 0, []), (.nop, 0, 0, []), (.nop, 0, 0, []), (.nop, 0, 0, []), (.nop, 0, 0, []), (.nop, 0, 0, []), (.nop, 0, 0, []), (.nop, 0, 0, []), (.nop, 0, 0, []), (.nop, 0, 0, []), (.nop, 0, 0, []), (.nop, 0, 0, []), (.nop, 0, 0, []), (.nop, 0, 0, []), (.nop, 0, 0, []), (.nop, 0, 0, []), (.nop, 0, 0, []), (.nop, 0, 0, []), (.nop, 0, 0, []), (.nop, 0, 0, []), (.nop, 0, 0, []), (.nop, 0, 0, []), (.nop, 0, 0, []), (.nop, 0, 0, []), (.nop, 0, 0, []), (.nop, 0, 0, []), (.nop, 0, 0, []), (.nop, 0, 0, []), (.nop, 0, 0, []), (.nop, 0, 0, []), (.nop, 0, 0, []), (.nop, 0, 0, []), (.nop, 0, 0, []), (.nop, 0, 0, []), (.iload_n 2, 1, 57, [2]), (.ireturn, 1, 58, [0])]
noncomputable def zx_c121 : List zx_RI := [(.aload_n 0, 1, 1, [0]), (.iload_n 1, 1, 2, [1]), (.invokevirtual 389, 3, 5, [2, 2, 12, 125, 0, 0, 1793, 1795, 91, 134, 2, 1, 0]), (.nop, 0, 0, []), (.nop, 0, 0, []), (.ifCond .eq 16, 3, 8, [21]), (.nop, 0, 0, []), (.nop, 0, 0, []), (.nop, 0, 0, []), (.nop, 0, 0, []), (.nop, 0, 0, []), (.nop, 0, 0, []), (.nop, 0, 0, []), (.nop, 0, 0, []), (.nop, 0, 0, []), (.nop, 0, 0, []), (.nop, 0, 0, []), (.nop, 0, 0, []), (.nop, 0, 0, []), (.nop, 0, 0, []), (.nop, 0, 0, []), (.iconst (-1), 1, 22, [4294967295]), (.ireturn, 1, 23, [0])]
noncomputable def zx_c122 : List zx_RI := [(.aload_n 0, 1, 1, [0]), (.getfield 20, 3, 4, [0, 12, 11, 1396]), (.nop, 0, 0, []), (.nop, 0, 0, []), (.aload_n 0, 1, 5, [0]), (.getfield 227, 3, 8, [0, 12, 31, 1416]), (.nop, 0, 0, []), (.nop, 0, 0, []), (.iconst 0, 1, 9, [0]), (.iastore, 1, 10, []), (.aload_n 0, 1, 11, [0]), (.getfield 24, 3, 14, [0, 12, 12, 1397]), (.nop, 0, 0, []), (.nop, 0, 0, []), (.aload_n 0, 1, 15, [0]), (.getfield 227, 3, 18, [0, 12, 31, 1416]), (.nop, 0, 0, []), (.nop, 0, 0, []), (.iconst 0, 1, 19, [0]), (.iastore, 1, 20, []), (.aload_n 0, 1, 21, [0]), (.getfield 27, 3, 24, [0, 12, 13, 1398]), (.nop, 0, 0, []), (.nop, 0, 0, []), (.aload_n 0, 1, 25, [0]), (.getfield 227, 3, 28, [0, 12, 31, 1416]), (.nop, 0, 0, []), (.nop, 0, 0, []), (.iconst 0, 1, 29, [0]), (.iastore, 1, 30, []), (.aload_n 0, 1, 31, [0]), (.getfield 30, 3, 34, [0, 12, 14, 1399]), (.nop, 0, 0, []), (.nop, 0, 0, []), (.aload_n 0, 1, 35, [0]), (.getfield 227, 3, 38, [0, 12, 31, 1416]), (.nop, 0, 0, []), (.nop, 0, 0, []), (.iconst 0, 1, 39, [0]), (.iastore, 1, 40, []), (.aload_n 0, 1, 41, [0]), (.getfield 33, 3, 44, [0, 12, 15, 1400]), (.nop, 0, 0, []), (.nop, 0, 0, []), (.aload_n 0, 1, 45, [0]), (.getfield 227, 3, 48, [0, 12, 31, 1416]), (.nop, 0, 0, []), (.nop, 0, 0, []), (.iconst 0, 1, 49, [0]), (.iastore, 1, 50, []), (.aload_n 0, 1, 51, [0]), (.getfield 36, 3, 54, [0, 12, 16, 1401]), (.nop, 0, 0, []), (.nop, 0, 0, []), (.aload_n 0, 1, 55, [0]), (.getfield 227, 3, 58, [0, 12, 31, 1416]), (.nop, 0, 0, []), (.nop, 0, 0, []), (.iconst 0, 1, 59, [0]), (.iastore, 1, 60, []), (.aload_n 0, 1, 61, [0]), (.sipush 560, 3, 64, [560]), (.nop, 0, 0, []), (.nop, 0, 0, []), (.aload_n 0, 1, 65, [0]), (.getfield 227, 3, 68, [0, 12, 31, 1416]), (.nop, 0, 0, []), (.nop, 0, 0, []), (.imul, 1, 69, []), (.putfield 230, 3, 72, [12, 32, 0, 1417]), (.nop, 0, 0, []), (.nop, 0, 0, []), (.return_, 1, 73, [])]
noncomputable def zx_c123 : List zx_RI := [(.iconst 0, 1, 1, [0]), (.istore_n 1, 1, 2, [1]), (.iconst 1, 1, 3, [1]), (.istore_n 2, 1, 4, [2]), (.iload_n 2, 1, 5, [2]), (.aload_n 0, 1, 6, [0]), (.invokevirtual 339, 3, 9, [2, 2, 12, 170, 0, 0, 1377, 1379, 51, 134, 1, 0]), (.nop, 0, 0, []), (.nop, 0, 0, []), (.if_icmp .ge 41, 3, 12, [50]), (.nop, 0, 0, []), (.nop, 0, 0, []), (.nop, 0, 0, []), (.nop, 0, 0, []), (.nop, 0, 0, []), (.nop, 0, 0, []), (.nop, 0, 0, []), (.nop, 0, 0, []), (.nop, 0, 0, []), (.nop, 0, 0, []), (.nop, 0, 0, []), (.nop, 0, 0, []), (.nop, 0, 0, []), (.nop, 0, 0, []), (.nop, 0, 0, []), (.nop, 0, 0, []), (.nop, 0, 0, []), (.nop, 0, 0, []), (.nop, 0, 0, []), (.nop, 0, 0, []), (.nop, 0, 0, []), (.nop, 0, 0, []), (.nop, 0, 0, []), (.nop, 0, 0, []), (.nop, 0, 0, []), (.nop, 0, 0, []), (.nop, 0, 0, []), (.nop, 0, 0, []), (.nop, 0, 0, []), (.nop, 0, 0, []), (.nop, 0, 0, []), (.nop, 0, 0, []), (.nop, 0, 0, []), (.nop, 0, 0, []), (.nop, 0, 0, []), (.nop, 0, 0, []), (.nop, 0, 0, []), (.nop, 0, 0, []), (.nop, 0, 0, []), (.nop, 0, 0, []), (.iload_n 1, 1, 51, [1]), (.ireturn, 1, 52, [0])]
noncomputable def zx_c124 : List zx_RI := [(.iload_n 0, 1, 1, [0]), (.istore_n 2, 1, 2, [2]), (.iload_n 1, 1, 3, [1]), (.istore_n 3, 1, 4, [3]), (.iload_n 3, 1, 5, [3]), (.ifCond .le 16, 3, 8, [21]), (.nop, 0, 0, []), (.nop, 0, 0, []), (.iload_n 2, 1, 9, [2]), (.iload_n 3, 1, 10, [3]), (.irem, 1, 11, []), (.istore 4, 2, 13, [4]), (.nop, 0, 0, []), (.iload_n 3, 1, 14, [3]), (.istore_n 2, 1, 15, [2]), (.iload 4, 2, 17, [4]), (.nop, 0, 0, []), (.istore_n 3, 1, 18, [3]), (.goto (-14), 3, 21, [4]), (.nop, 0, 0, []), (.nop, 0, 0, []), (.iload_n 2, 1, 22, [2]), (.ireturn, 1, 23, [0])]
noncomputable def zx_c125 : List zx_RI := [(.aload_n 0, 1, 1, [0]), (.iload_n 1, 1, 2, [1]), (.invokevirtual 352, 3, 5, [2, 2, 12, 144, 0, 0, 1736, 1738, 83, 134, 2, 1, 0]), (.nop, 0, 0, []), (.nop, 0, 0, []), (.ifCond .eq 19, 3, 8, [24]), (.nop, 0, 0, []), (.nop, 0, 0, []), (.nop, 0, 0, []), (.nop, 0, 0, []), (.nop, 0, 0, []), (.nop, 0, 0, []), (.nop, 0, 0, []), (.nop, 0, 0, []), (.nop, 0, 0, []), (.nop, 0, 0, []), (.nop, 0, 0, []), (.nop, 0, 0, []), (.nop, 0, 0, []), (.nop, 0, 0, []), (.nop, 0, 0, []), (.nop, 0, 0, []), (.nop, 0, 0, []), (.nop, 0, 0, []), (.iconst 0, 1, 25, [0]), (.ireturn, 1, 26, [1])]
noncomputable def zx_c126 : List zx_RI := [(.iload_n 1, 1, 1, [1]), (.ifCond .lt 11, 3, 4, [12]), (.nop, 0, 0, []), (.nop, 0, 0, []), (.iload_n 1, 1, 5, [1]), (.aload_n 0, 1, 6, [0]), (.getfield 233, 3, 9, [0, 12, 2, 1387]), (.nop, 0, 0, []), (.nop, 0, 0, []), (.if_icmp .le 5, 3, 12, [14]), (.nop, 0, 0, []), (.nop, 0, 0, []), (.iconst (-1), 1, 13, [4294967295]), (.ireturn, 1, 14, [0]), (.aload_n 0, 1, 15, [0]), (.iload_n 1, 1, 16, [1]), (.putfield 233, 3, 19, [12, 2, 0, 1387]), (.nop, 0, 0, []), (.nop, 0, 0, []), (.iload_n 1, 1, 20, [1]), (.ireturn, 1, 21, [0])]
noncomputable def zx_c127 : List zx_RI := [(.aload_n 0, 1, 1, [0]), (.iload_n 1, 1, 2, [1]), (.invokevirtual 389, 3, 5, [2, 2, 12, 125, 0, 0, 1793, 1795, 91, 134, 2, 1, 0]), (.nop, 0, 0, []), (.nop, 0, 0, []), (.ifCond .ne 5, 3, 8, [10]), (.nop, 0, 0, []), (.nop, 0, 0, []), (.iconst (-1), 1, 9, [4294967295]), (.ireturn, 1, 10, [0])]
noncomputable def zx_c128 : List zx_RI := [(.iload_n 1, 1, 1, [1]), (.ifCond .ne 10, 3, 4, [11]), (.nop, 0, 0, []), (.nop, 0, 0, []), (.aload_n 0, 1, 5, [0]), (.getfield 134, 3, 8, [0, 12, 4, 1389]), (.nop, 0, 0, []), (.nop, 0, 0, []), (.goto 16, 3, 11, [24]), (.nop, 0, 0, []), (.nop, 0, 0, []), (.iload_n 1, 1, 12, [1]), (.iconst 1, 1, 13, [1]), (.if_icmp .ne 10, 3, 16, [23]), (.nop, 0, 0, []), (.nop, 0, 0, []), (.aload_n 0, 1, 17, [0]), (.getfield 16, 3, 20, [0, 12, 5, 1390]), (.nop, 0, 0, []), (.nop, 0, 0, []), (.goto 4, 3, 23, [24]), (.nop, 0, 0, []), (.nop, 0, 0, []), (.iconst (-1), 1, 24, [4294967295]), (.ireturn, 1, 25, [0])]
noncomputable def zx_c129 : List zx_RI := [(.aload_n 0, 1, 1, [0]), (.getfield 233, 3, 4, [0, 12, 2, 1387]), (.nop, 0, 0, []), (.nop, 0, 0, []), (.bipush 20, 2, 6, [20]), (.nop, 0, 0, []), (.iadd, 1, 7, []), (.sipush 1600, 3, 10, [1600]), (.nop, 0, 0, []), (.nop, 0, 0, []), (.if_icmp .le 5, 3, 13, [15]), (.nop, 0, 0, []), (.nop, 0, 0, []), (.nop, 0, 0, []), (.nop, 0, 0, []), (.iconst 0, 1, 16, [0]), (.istore 6, 2, 18, [6]), (.nop, 0, 0, []), (.iload 6, 2, 20, [6]), (.nop, 0, 0, []), (.bipush 20, 2, 22, [20]), (.nop, 0, 0, []), (.if_icmp .ge 83, 3, 25, [105]), (.nop, 0, 0, []), (.nop, 0, 0, []), (.iload 6, 2, 27, [6]), (.nop, 0, 0, []), (.iconst 4, 1, 28, [4]), (.if_icmp .ge 7, 3, 31, [35]), (.nop, 0, 0, []), (.nop, 0, 0, []), (.iload_n 1, 1, 32, [1]), (.goto 39, 3, 35, [71]), (.nop, 0, 0, []), (.nop, 0, 0, []), (.iload 6, 2, 37, [6]), (.nop, 0, 0, []), (.bipush 8, 2, 39, [8]), (.nop, 0, 0, []), (.if_icmp .ge 7, 3, 42, [46]), (.nop, 0, 0, []), (.nop, 0, 0, []), (.iload_n 2, 1, 43, [2]), (.goto 28, 3, 46, [71]), (.nop, 0, 0, []), (.nop, 0, 0, []), (.iload 6, 2, 48, [6]), (.nop, 0, 0, []), (.bipush 12, 2, 50, [12]), (.nop, 0, 0, []), (.if_icmp .ge 7, 3, 53, [57]), (.nop, 0, 0, []), (.nop, 0, 0, []), (.iload_n 3, 1, 54, [3]), (.goto 17, 3, 57, [71]), (.nop, 0, 0, []), (.nop, 0, 0, []), (.iload 6, 2, 59, [6]), (.nop, 0, 0, []), (.bipush 16, 2, 61, [16]), (.nop, 0, 0, []), (.if_icmp .ge 8, 3, 64, [69]), (.nop, 0, 0, []), (.nop, 0, 0, []), (.iload 4, 2, 66, [4]), (.nop, 0, 0, []), (.goto 5, 3, 69, [71]), (.nop, 0, 0, []), (.nop, 0, 0, []), (.iload 5, 2, 71, [5]), (.nop, 0, 0, []), (.istore 7, 2, 73, [7]), (.nop, 0, 0, []), (.aload_n 0, 1, 74, [0]), (.getfield 7, 3, 77, [0, 12, 0, 1385]), (.nop, 0, 0, []), (.nop, 0, 0, []), (.aload_n 0, 1, 78, [0]), (.getfield 233, 3, 81, [0, 12, 2, 1387]), (.nop, 0, 0, []), (.nop, 0, 0, []), (.iload 6, 2, 83, [6]), (.nop, 0, 0, []), (.iadd, 1, 84, []), (.iload 7, 2, 86, [7]), (.nop, 0, 0, []), (.bipush 24, 2, 88, [24]), (.nop, 0, 0, []), (.bipush 8, 2, 90, [8]), (.nop, 0, 0, []), (.iload 6, 2, 92, [6]), (.nop, 0, 0, []), (.iconst 3, 1, 93, [3]), (.iand, 1, 94, []), (.imul, 1, 95, []), (.isub, 1, 96, []), (.ishr, 1, 97, []), (.i2b, 1, 98, []), (.bastore, 1, 99, []), (.iinc 6 1, 3, 102, [6, 1]), (.nop, 0, 0, []), (.nop, 0, 0, []), (.goto (-84), 3, 105, [18]), (.nop, 0, 0, []), (.nop, 0, 0, []), (.aload_n 0, 1, 106, [0]), (.dup, 1, 107, []), (.getfield 233, 3, 110, [0, 12, 2, 1387]), (.nop, 0, 0, []), (.nop, 0, 0, []), (.bipush 20, 2, 112, [20]), (.nop, 0, 0, []), (.iadd, 1, 113, []), (.putfield 233, 3, 116, [12, 2, 0, 1387]), (.nop, 0, 0, []), (.nop, 0, 0, []), (.aload_n 0, 1, 117, [0]), (.getfield 233, 3, 120, [0, 12, 2, 1387]), (.nop, 0, 0, []), (.nop, 0, 0, []), (.ireturn, 1, 121, [0])]
noncomputable def zx_c130 : List zx_RI := [(.aload_n 0, 1, 1, [0]), (.iload_n 1, 1, 2, [1]), (.invokevirtual 352, 3, 5, [2, 2, 12, 144, 0, 0, 1736, 1738, 83, 134, 2, 1, 0]), (.nop, 0, 0, []), (.nop, 0, 0, []), (.ifCond .eq 28, 3, 8, [33]), (.nop, 0, 0, []), (.nop, 0, 0, []), (.nop, 0, 0, []), (.nop, 0, 0, []), (.nop, 0, 0, []), (.nop, 0, 0, []), (.nop, 0, 0, []), (.nop, 0, 0, []), (.nop, 0, 0, []), (.nop, 0, 0, []), (.nop, 0, 0, []), (.nop, 0, 0, []), (.nop, 0, 0, []), (.nop, 0, 0, []), (.nop, 0, 0, []), (.nop, 0, 0, []), (.nop, 0, 0, []), (.nop, 0, 0, []), (.nop, 0, 0, []), (.nop, 0, 0, []), (.nop, 0, 0, []), (.nop, 0, 0, []), (.nop, 0, 0, []), (.nop, 0, 0, []), (.nop, 0, 0, []), (.nop, 0, 0, []), (.nop, 0, 0, []), (.iconst (-1), 1, 34, [4294967295]), (.ireturn, 1, 35, [0])]
noncomputable def zx_c131 : List zx_RI := [(.aload_n 0, 1, 1, [0]), (.invokevirtual 346, 3, 4, [2, 2, 12, 132, 0, 0, 1381, 1383, 52, 134, 1, 0]), (.nop, 0, 0, []), (.nop, 0, 0, []), (.ifCond .ne 5, 3, 7, [9]), (.nop, 0, 0, []), (.nop, 0, 0, []), (.iconst 0, 1, 8, [0]), (.ireturn, 1, 9, [0])]
noncomputable def zx_c132 : List zx_RI := [(.aload_n 0, 1, 1, [0]), (.getfield 24, 3, 4, [0, 12, 12, 1397]), (.nop, 0, 0, []), (.nop, 0, 0, []), (.aload_n 0, 1, 5, [0]), (.getfield 236, 3, 8, [0, 12, 30, 1415]), (.nop, 0, 0, []), (.nop, 0, 0, []), (.iaload, 1, 9, []), (.ireturn, 1, 10, [0])]
noncomputable def zx_c133 : List zx_RI := [(.iconst 0, 1, 1, [0]), (.istore_n 1, 1, 2, [1]), (.iconst 0, 1, 3, [0]), (.istore_n 2, 1, 4, [2]), (.iconst 0, 1, 5, [0]), (.istore_n 3, 1, 6, [3]), (.iload_n 3, 1, 7, [3]), (.aload_n 0, 1, 8, [0]), (.invokevirtual 339, 3, 11, [2, 2, 12, 170, 0, 0, 1377, 1379, 51, 134, 1, 0]), (.nop, 0, 0, []), (.nop, 0, 0, []), (.if_icmp .ge 40, 3, 14, [51]), (.nop, 0, 0, []), (.nop, 0, 0, []), (.nop, 0, 0, []), (.nop, 0, 0, []), (.nop, 0, 0, []), (.nop, 0, 0, []), (.nop, 0, 0, []), (.nop, 0, 0, []), (.nop, 0, 0, []), (.nop, 0, 0, []), (.nop, 0, 0, []), (.nop, 0, 0, []), (.nop, 0, 0, []), (.nop, 0, 0, []), (.nop, 0, 0, []), (.nop, 0, 0, []), (.nop, 0, 0, []), (.nop, 0, 0, []), (.nop, 0, 0, []), (.nop, 0, 0, []), (.nop, 0, 0, []), (.nop, 0, 0, []), (.nop, 0, 0, []), (.nop, 0, 0, []), (.nop, 0, 0, []), (.nop, 0, 0, []), (.nop, 0, 0, []), (.nop, 0, 0, []), (.nop, 0, 0, []), (.nop, 0, 0, []), (.nop, 0, 0, []), (.nop, 0, 0, []), (.nop, 0, 0, []), (.nop, 0, 0, []), (.nop, 0, 0, []), (.nop, 0, 0, []), (.nop, 0, 0, []), (.nop, 0, 0, []), (.nop, 0, 0, []), (.iload_n 1, 1, 52, [1]), (.ireturn, 1, 53, [0])]
noncomputable def zx_c134 : List zx_RI := [(.iconst 0, 1, 1, [0]), (.istore_n 2, 1, 2, [2]), (.iconst 0, 1, 3, [0]), (.istore_n 3, 1, 4, [3]), (.iload_n 3, 1, 5, [3]), (.aload_n 0, 1, 6, [0]), (.invokevirtual 346, 3, 9, [2, 2, 12, 132, 0, 0, 1381, 1383, 52, 134, 1, 0]), (.nop, 0, 0, []), (.nop, 0, 0, []), (.if_icmp .ge 160, 3, 12, [169]), (.nop, 0, 0, []), (.nop, 0, 0, []), (.nop, 0, 0, []), (.nop, 0, 0, []), (.nop, 0, 0, []), (.nop, 0, 0, []), (.nop, 0, 0, []), (.nop, 0, 0, []), (.nop, 0, 0, []), (.nop, 0, 0, []), (.nop, 0, 0, []), (.nop, 0, 0, []), (.nop, 0, 0, []), (.nop, 0, 0, []), (.nop, 0, 0, []), (.nop, 0, 0, []), (.nop, 0, 0, []), (.nop, 0, 0, []), (.nop, 0, 0, []), (.nop, 0, 0, []), (.nop, 0, 0, []), (.nop, 0, 0, []), (.nop, 0, 0, []), (.nop, 0, 0, []), (.nop, 0, 0, []), (.nop, 0, 0, []), (.nop, 0, 0, []), (.nop, 0, 0, []), (.nop, 0, 0, []), (.nop, 0, 0, []), (.nop, 0, 0, []), (.nop, 0, 0, []), (.nop, 0, 0, []), (.nop, 0, 0, []), (.nop, 0, 0, []), (.nop, 0, 0, []), (.nop, 0, 0, []), (.nop, 0, 0, []), (.nop, 0, 0, []), (.nop, 0, 0, []), (.nop, 0, 0, []), (.nop, 0, 0, []), (.nop, 0, 0, []), (.nop, 0, 0, []), (.nop, 0, 0, []), (.nop, 0, 0, []), (.nop, 0, 0, []), (.nop, 0, 0, []), (.nop, 0, 0, []), (.nop, 0, 0, []), (.nop, 0, 0, []), (.nop, 0, 0, []), (.nop, 0, 0, []), (.nop, 0, 0, []), (.nop, 0, 0, []), (.nop, 0, 0, []), (.nop, 0, 0, []), (.nop, 0, 0, []), (.nop, 0, 0, []), (.nop, 0, 0, []), (.nop, 0, 0, []), (.nop, 0, 0, []), (.nop, 0, 0, []), (.nop, 0, 0, []), (.nop, 0, 0, []), (.nop, 0, 0, []), (.nop, 0, 0, []), (.nop, 0, 0, []), (.nop, 0, 0, []), (.nop, 0, 0, []), (.nop, 0, 0, []), (.nop, 0, 0, []), (.nop, 0, 0, []), (.nop, 0, 0, []), (.nop, 0, 0, []), (.nop, 0, 0, []), (.nop, 0, 0, []), (.nop, 0, 0, []), (.nop, 0, 0, []), (.nop, 0, 0, []), (.nop, 0, 0, []), (.nop, 0, 0, []), (.nop, 0, 0, []), (.nop, 0, 0, []), (.nop, 0, 0, []), (.nop, 0, 0, []), (.nop, 0, 0, []), (.nop, 0, 0, []), (.nop, 0, 0, []), (.nop, 0, 0, []), (.nop, 0, 0, []), (.nop, 0, 0, []), (.nop, 0, 0, []), (.nop, 0, 0, []), (.nop, 0, 0, []), (.nop, 0, 0, []), (.nop, 0, 0, []), (.nop, 0, 0, []), (.nop, 0, 0, []), (.nop, 0, 0, []), (.nop, 0, 0, []), (.nop, 0, 0, []), (.nop, 0, 0, []), (.nop, 0, 0, []), (.nop, 0, 0, []), (.nop, 0, 0, []), (.nop, 0, 0, []), (.nop, 0, 0, []), (.nop, 0, 0, []), (.nop, 0, 0, []), (.nop, 0, 0, []), (.nop, 0, 0, []), (.nop, 0, 0, []), (.nop, 0, 0, []), (.nop, 0, 0, []), (.nop, 0, 0, []), (.nop, 0, 0, []), (.nop, 0, 0, []), (.nop, 0, 0, []), (.nop, 0, 0, []), (.nop, 0, 0, []), (.nop, 0, 0, []), (.nop, 0, 0, []), (.nop, 0, 0, []), (.nop, 0, 0, []), (.nop, 0, 0, []), (.nop, 0, 0, []), (.nop, 0, 0, []), (.nop, 0, 0, []), (.nop, 0, 0, []), (.nop, 0, 0, []), (.nop, 0, 0, []), (.nop, 0, 0, []), (.nop, 0, 0, []), (.nop, 0, 0, []), (.nop, 0, 0, []), (.nop, 0, 0, []), (.nop, 0, 0, []), (.nop, 0, 0, []), (.nop, 0, 0, []), (.nop, 0, 0, []), (.nop, 0, 0, []), (.nop, 0, 0, []), (.nop, 0, 0, []), (.nop, 0, 0, []), (.nop, 0, 0, []), (.nop, 0, 0, []), (.nop, 0, 0, []), (.nop, 0, 0, []), (.nop, 0, 0, []), (.nop, 0, 0, []), (.nop, 0, 0, []), (.nop, 0, 0, []), (.nop, 0, 0, []), (.nop, 0, 0, []), (.nop, 0, 0, []), (.nop, 0, 0, []), (.nop, 0, 0, []), (.nop, 0, 0, []), (.iconst 0, 1, 170, [0]), (.istore_n 3, 1, 171, [3]), (.iload_n 3, 1, 172, [3]), (.aload_n 0, 1, 173, [0]), (.invokevirtual 339, 3, 176, [2, 2, 12, 170, 0, 0, 1377, 1379, 51, 134, 1, 0]), (.nop, 0, 0, []), (.nop, 0, 0, []), (.if_icmp .ge 89, 3, 179, [265]), (.nop, 0, 0, []), (.nop, 0, 0, []), (.nop, 0, 0, []), (.nop, 0, 0, []), (.nop, 0, 0, []), (.nop, 0, 0, []), (.nop, 0, 0, []), (.nop, 0, 0, []), (.nop, 0, 0, []), (.nop, 0, 0, []), (.nop, 0, 0, []), (.nop, 0, 0, []), (.nop, 0, 0, []), (.nop, 0, 0, []), (.nop, 0, 0, []), (.nop, 0, 0, []), (.nop, 0, 0, []), (.nop, 0, 0, []), (.nop, 0, 0, []), (.nop, 0, 0, []), (.nop, 0, 0, []), (.nop, 0, 0, []), (.nop, 0, 0, []), (.nop, 0, 0, []), (.nop, 0, 0, []), (.nop, 0, 0, []), (.nop, 0, 0, []), (.nop, 0, 0, []), (.nop, 0, 0, []), (.nop, 0, 0, []), (.nop, 0, 0, []), (.nop, 0, 0, []), (.nop, 0, 0, []), (.nop, 0, 0, []), (.nop, 0, 0, []), (.nop, 0, 0, []), (.nop, 0, 0, []), (.nop, 0, 0, []), (.nop, 0, 0, []), (.nop, 0, 0, []), (.nop, 0, 0, []), (.nop, 0, 0, []), (.nop, 0, 0, []), (.nop, 0, 0, []), (.nop, 0, 0, []), (.nop, 0, 0, []), (.nop, 0, 0, []), (.nop, 0, 0, []), (.nop, 0, 0, []), (.nop, 0, 0, []), (.nop, 0, 0, []), (.nop, 0, 0, []), (.nop, 0, 0, []), (.nop, 0, 0, []), (.nop, 0, 0, []), (.nop, 0, 0, []), (.nop, 0, 0, []), (.nop, 0, 0, []), (.nop, 0, 0, []), (.nop, 0, 0, []), (.nop, 0, 0, []), (.nop, 0, 0, []), (.nop, 0, 0, []), (.nop, 0, 0, []), (.nop, 0, 0, []), (.nop, 0, 0, []), (.nop, 0, 0, []), (.nop, 0, 0, []), (.nop, 0, 0, []), (.nop, 0, 0, []), (.nop, 0, 0, []), (.nop, 0, 0, []), (.nop, 0, 0, []), (.nop, 0, 0, []), (.nop, 0, 0, []), (.nop, 0, 0, []), (.nop, 0, 0, []), (.nop, 0, 0, []), (.nop, 0, 0, []), (.nop, 0, 0, []), (.nop, 0, 0, []), (.nop, 0, 0, []), (.nop, 0, 0, []), (.nop, 0, 0, []), (.nop, 0, 0, []), (.nop, 0, 0, []), (.nop, 0, 0, []), (.nop, 0, 0, []), (.aload_n 0, 1, 266, [0]), (.getfield 79, 3, 269, [0, 12, 40, 1425]), (.nop, 0, 0, []), (.nop, 0, 0, []), (.bipush 30, 2, 271, [30]), (.nop, 0, 0, []), (.dup2, 1, 272, []), (.iaload, 1, 273, []), (.iconst 1, 1, 274, [1]), (.iadd, 1, 275, []), (.iastore, 1, 276, []), (.iload_n 2, 1, 277, [2]), (.ireturn, 1, 278, [0])]
noncomputable def zx_c135 : List zx_RI := [(.aload_n 0, 1, 1, [0]), (.aload_n 0, 1, 2, [0]), (.getfield 169, 3, 5, [0, 12, 7, 1392]), (.nop, 0, 0, []), (.nop, 0, 0, []), (.putfield 172, 3, 8, [12, 6, 0, 1391]), (.nop, 0, 0, []), (.nop, 0, 0, []), (.aload_n 0, 1, 9, [0]), (.getfield 172, 3, 12, [0, 12, 6, 1391]), (.nop, 0, 0, []), (.nop, 0, 0, []), (.aload_n 0, 1, 13, [0]), (.getfield 131, 3, 16, [0, 12, 3, 1388]), (.nop, 0, 0, []), (.nop, 0, 0, []), (.if_icmp .ge 42, 3, 19, [58]), (.nop, 0, 0, []), (.nop, 0, 0, []), (.nop, 0, 0, []), (.nop, 0, 0, []), (.nop, 0, 0, []), (.nop, 0, 0, []), (.nop, 0, 0, []), (.nop, 0, 0, []), (.nop, 0, 0, []), (.nop, 0, 0, []), (.nop, 0, 0, []), (.nop, 0, 0, []), (.nop, 0, 0, []), (.nop, 0, 0, []), (.nop, 0, 0, []), (.nop, 0, 0, []), (.nop, 0, 0, []), (.nop, 0, 0, []), (.nop, 0, 0, []), (.nop, 0, 0, []), (.nop, 0, 0, []), (.nop, 0, 0, []), (.nop, 0, 0, []), (.nop, 0, 0, []), (.nop, 0, 0, []), (.nop, 0, 0, []), (.nop, 0, 0, []), (.nop, 0, 0, []), (.nop, 0, 0, []), (.nop, 0, 0, []), (.nop, 0, 0, []), (.nop, 0, 0, []), (.nop, 0, 0, []), (.nop, 0, 0, []), (.nop, 0, 0, []), (.nop, 0, 0, []), (.nop, 0, 0, []), (.nop, 0, 0, []), (.nop, 0, 0, []), (.nop, 0, 0, []), (.nop, 0, 0, []), (.aload_n 0, 1, 59, [0]), (.aload_n 0, 1, 60, [0]), (.getfield 172, 3, 63, [0, 12, 6, 1391]), (.nop, 0, 0, []), (.nop, 0, 0, []), (.invokevirtual 175, 3, 66, [2, 2, 12, 172, 0, 0, 1574, 1576, 54, 134, 2, 1, 0]), (.nop, 0, 0, []), (.nop, 0, 0, []), (.istore_n 1, 1, 67, [1]), (.aload_n 0, 1, 68, [0]), (.aload_n 0, 1, 69, [0]), (.getfield 172, 3, 72, [0, 12, 6, 1391]), (.nop, 0, 0, []), (.nop, 0, 0, []), (.iconst 1, 1, 73, [1]), (.iadd, 1, 74, []), (.putfield 169, 3, 77, [12, 7, 0, 1392]), (.nop, 0, 0, []), (.nop, 0, 0, []), (.aload_n 0, 1, 78, [0]), (.getfield 172, 3, 81, [0, 12, 6, 1391]), (.nop, 0, 0, []), (.nop, 0, 0, []), (.aload_n 0, 1, 82, [0]), (.getfield 131, 3, 85, [0, 12, 3, 1388]), (.nop, 0, 0, []), (.nop, 0, 0, []), (.if_icmp .lt 27, 3, 88, [112]), (.nop, 0, 0, []), (.nop, 0, 0, []), (.aload_n 0, 1, 89, [0]), (.iconst 0, 1, 90, [0]), (.putfield 179, 3, 93, [12, 8, 0, 1393]), (.nop, 0, 0, []), (.nop, 0, 0, []), (.aload_n 0, 1, 94, [0]), (.aload_n 0, 1, 95, [0]), (.getfield 131, 3, 98, [0, 12, 3, 1388]), (.nop, 0, 0, []), (.nop, 0, 0, []), (.putfield 172, 3, 101, [12, 6, 0, 1391]), (.nop, 0, 0, []), (.nop, 0, 0, []), (.aload_n 0, 1, 102, [0]), (.aload_n 0, 1, 103, [0]), (.getfield 131, 3, 106, [0, 12, 3, 1388]), (.nop, 0, 0, []), (.nop, 0, 0, []), (.putfield 169, 3, 109, [12, 7, 0, 1392]), (.nop, 0, 0, []), (.nop, 0, 0, []), (.goto 268, 3, 112, [377]), (.nop, 0, 0, []), (.nop, 0, 0, []), (.nop, 0, 0, []), (.nop, 0, 0, []), (.nop, 0, 0, []), (.nop, 0, 0, []), (.nop, 0, 0, []), (.nop, 0, 0, []), (.nop, 0, 0, []), (.nop, 0, 0, []), (.nop, 0, 0, []), (.nop, 0, 0, []), (.nop, 0, 0, []), (.nop, 0, 0, []), (.nop, 0, 0, []), (.nop, 0, 0, []), (.nop, 0, 0, []), (.nop, 0, 0, []), (.nop, 0, 0, []), (.nop, 0, 0, []), (.nop, 0, 0, []), (.nop, 0, 0, []), (.nop, 0, 0, []), (.nop, 0, 0, []), (.nop, 0, 0, []), (.nop, 0, 0, []), (.nop, 0, 0, []), (.nop, 0, 0, []), (.nop, 0, 0, []), (.nop, 0, 0, []), (.nop, 0, 0, []), (.nop, 0, 0, []), (.nop, 0, 0, []), (.nop, 0, 0, []), (.nop, 0, 0, []), (.nop, 0, 0, []), (.nop, 0, 0, []), (.nop, 0, 0, []), (.nop, 0, 0, []), (.nop, 0, 0, []), (.nop, 0, 0, []), (.nop, 0, 0, []), (.nop, 0, 0, []), (.nop, 0, 0, []), (.nop, 0, 0, []), (.nop, 0, 0, []), (.nop, 0, 0, []), (.nop, 0, 0, []), (.nop, 0, 0, []), (.nop, 0, 0, []), (.nop, 0, 0, []), (.nop, 0, 0, []), (.nop, 0, 0, []), (.nop, 0, 0, []), (.nop, 0, 0, []), (.nop, 0, 0, []), (.nop, 0, 0, []), (.nop, 0, 0, []), (.nop, 0, 0, []), (.nop, 0, 0, []), (.nop, 0, 0, []), (.nop, 0, 0, []), (.nop, 0, 0, []), (.nop, 0, 0, []), (.nop, 0, 0, []), (.nop, 0, 0, []), (.nop, 0, 0, []), (.nop, 0, 0, []), (.nop, 0, 0, []), (.nop, 0, 0, []), (.nop, 0, 0, []), (.nop, 0, 0, []), (.nop, 0, 0, []), (.nop, 0, 0, []), (.nop, 0, 0, []), (.nop, 0, 0, []), (.nop, 0, 0, []), (.nop, 0, 0, []), (.nop, 0, 0, []), (.nop, 0, 0, []), (.nop, 0, 0, []), (.nop, 0, 0, []), (.nop, 0, 0, []), (.nop, 0, 0, []), (.nop, 0, 0, []), (.nop, 0, 0, []), (.nop, 0, 0, []), (.nop, 0, 0, []), (.nop, 0, 0, []), (.nop, 0, 0, []), (.nop, 0, 0, []), (.nop, 0, 0, []), (.nop, 0, 0, []), (.nop, 0, 0, []), (.nop, 0, 0, []), (.nop, 0, 0, []), (.nop, 0, 0, []), (.nop, 0, 0, []), (.nop, 0, 0, []), (.nop, 0, 0, []), (.nop, 0, 0, []), (.nop, 0, 0, []), (.nop, 0, 0, []), (.nop, 0, 0, []), (.nop, 0, 0, []), (.nop, 0, 0, []), (.nop, 0, 0, []), (.nop, 0, 0, []), (.nop, 0, 0, []), (.nop, 0, 0, []), (.nop, 0, 0, []), (.nop, 0, 0, []), (.nop, 0, 0, []), (.nop, 0, 0, []), (.nop, 0, 0, []), (.nop, 0, 0, []), (.nop, 0, 0, []), (.nop, 0, 0, []), (.nop, 0, 0, []), (.nop, 0, 0, []), (.nop, 0, 0, []), (.nop, 0, 0, []), (.nop, 0, 0, []), (.nop, 0, 0, []), (.nop, 0, 0, []), (.nop, 0, 0, []), (.nop, 0, 0, []), (.nop, 0, 0, []), (.nop, 0, 0, []), (.nop, 0, 0, []), (.nop, 0, 0, []), (.nop, 0, 0, []), (.nop, 0, 0, []), (.nop, 0, 0, []), (.nop, 0, 0, []), (.nop, 0, 0, []), (.nop, 0, 0, []), (.nop, 0, 0, []), (.nop, 0, 0, []), (.nop, 0, 0, []), (.nop, 0, 0, []), (.nop, 0, 0, []), (.nop, 0, 0, []), (.nop, 0, 0, []), (.nop, 0, 0, []), (.nop, 0, 0, []), (.nop, 0, 0, []), (.nop, 0, 0, []), (.nop, 0, 0, []), (.nop, 0, 0, []), (.nop, 0, 0, []), (.nop, 0, 0, []), (.nop, 0, 0, []), (.nop, 0, 0, []), (.nop, 0, 0, []), (.nop, 0, 0, []), (.nop, 0, 0, []), (.nop, 0, 0, []), (.nop, 0, 0, []), (.nop, 0, 0, []), (.nop, 0, 0, []), (.nop, 0, 0, []), (.nop, 0, 0, []), (.nop, 0, 0, []), (.nop, 0, 0, []), (.nop, 0, 0, []), (.nop, 0, 0, []), (.nop, 0, 0, []), (.nop, 0, 0, []), (.nop, 0, 0, []), (.nop, 0, 0, []), (.nop, 0, 0, []), (.nop, 0, 0, []), (.nop, 0, 0, []), (.nop, 0, 0, []), (.nop, 0, 0, []), (.nop, 0, 0, []), (.nop, 0, 0, []), (.nop, 0, 0, []), (.nop, 0, 0, []), (.nop, 0, 0, []), (.nop, 0, 0, []), (.nop, 0, 0, []), (.nop, 0, 0, []), (.nop, 0, 0, []), (.nop, 0, 0, []), (.nop, 0, 0, []), (.nop, 0, 0, []), (.nop, 0, 0, []), (.nop, 0, 0, []), (.nop, 0, 0, []), (.nop, 0, 0, []), (.nop, 0, 0, []), (.nop, 0, 0, []), (.nop, 0, 0, []), (.nop, 0, 0, []), (.nop, 0, 0, []), (.nop, 0, 0, []), (.nop, 0, 0, []), (.nop, 0, 0, []), (.nop, 0, 0, []), (.nop, 0, 0, []), (.nop, 0, 0, []), (.nop, 0, 0, []), (.nop, 0, 0, []), (.nop, 0, 0, []), (.nop, 0, 0, []), (.nop, 0, 0, []), (.nop, 0, 0, []), (.nop, 0, 0, []), (.nop, 0, 0, []), (.nop, 0, 0, []), (.nop, 0, 0, []), (.nop, 0, 0, []), (.nop, 0, 0, []), (.nop, 0, 0, []), (.nop, 0, 0, []), (.nop, 0, 0, []), (.nop, 0, 0, []), (.nop, 0, 0, []), (.nop, 0, 0, []), (.nop, 0, 0, []), (.nop, 0, 0, []), (.nop, 0, 0, []), (.nop, 0, 0, []), (.nop, 0, 0, []), (.nop, 0, 0, []), (.nop, 0, 0, []), (.nop, 0, 0, []), (.nop, 0, 0, []), (.nop, 0, 0, []), (.nop, 0, 0, []), (.nop, 0, 0, []), (.nop, 0, 0, []), (.nop, 0, 0, []), (.nop, 0, 0, []), (.nop, 0, 0, []), (.nop, 0, 0, []), (.nop, 0, 0, []), (.nop, 0, 0, []), (.nop, 0, 0, []), (.nop, 0, 0, []), (.nop, 0, 0, []), (.nop, 0, 0, []), (.nop, 0, 0, []), (.nop, 0, 0, []), (.nop, 0, 0, []), (.nop, 0, 0, []), (.nop, 0, 0, []), (.nop, 0, 0, []), (.nop, 0, 0, []), (.nop, 0, 0, []), (.nop, 0, 0, []), (.nop, 0, 0, []), (.nop, 0, 0, []), (.nop, 0, 0, []), (.nop, 0, 0, []), (.nop, 0, 0, []), (.nop, 0, 0, []), (.nop, 0, 0, []), (.nop, 0, 0, []), (.nop, 0, 0, []), (.nop, 0, 0, []), (.nop, 0, 0, []), (.nop, 0, 0, []), (.nop, 0, 0, []), (.nop, 0, 0, []), (.return_, 1, 378, [])]
noncomputable def zx_c136 : List zx_RI := [(.aload_n 0, 1, 1, [0]), (.iload_n 1, 1, 2, [1]), (.invokevirtual 352, 3, 5, [2, 2, 12, 144, 0, 0, 1736, 1738, 83, 134, 2, 1, 0]), (.nop, 0, 0, []), (.nop, 0, 0, []), (.ifCond .eq 20, 3, 8, [25]), (.nop, 0, 0, []), (.nop, 0, 0, []), (.nop, 0, 0, []), (.nop, 0, 0, []), (.nop, 0, 0, []), (.nop, 0, 0, []), (.nop, 0, 0, []), (.nop, 0, 0, []), (.nop, 0, 0, []), (.nop, 0, 0, []), (.nop, 0, 0, []), (.nop, 0, 0, []), (.nop, 0, 0, []), (.nop, 0, 0, []), (.nop, 0, 0, []), (.nop, 0, 0, []), (.nop, 0, 0, []), (.nop, 0, 0, []), (.nop, 0, 0, []), (.iconst (-1), 1, 26, [4294967295]), (.ireturn, 1, 27, [0])]
noncomputable def zx_c137 : List zx_RI := [(.iconst 0, 1, 1, [0]), (.istore_n 3, 1, 2, [3]), (.iconst 0, 1, 3, [0]), (.istore 4, 2, 5, [4]), (.nop, 0, 0, []), (.iload 4, 2, 7, [4]), (.nop, 0, 0, []), (.aload_n 0, 1, 8, [0]), (.invokevirtual 346, 3, 11, [2, 2, 12, 132, 0, 0, 1381, 1383, 52, 134, 1, 0]), (.nop, 0, 0, []), (.nop, 0, 0, []), (.if_icmp .ge 34, 3, 14, [45]), (.nop, 0, 0, []), (.nop, 0, 0, []), (.nop, 0, 0, []), (.nop, 0, 0, []), (.nop, 0, 0, []), (.nop, 0, 0, []), (.nop, 0, 0, []), (.nop, 0, 0, []), (.nop, 0, 0, []), (.nop, 0, 0, []), (.nop, 0, 0, []), (.nop, 0, 0, []), (.nop, 0, 0, []), (.nop, 0, 0, []), (.nop, 0, 0, []), (.nop, 0, 0, []), (.nop, 0, 0, []), (.nop, 0, 0, []), (.nop, 0, 0, []), (.nop, 0, 0, []), (.nop, 0, 0, []), (.nop, 0, 0, []), (.nop, 0, 0, []), (.nop, 0, 0, []), (.nop, 0, 0, []), (.nop, 0, 0, []), (.nop, 0, 0, []), (.nop, 0, 0, []), (.nop, 0, 0, []), (.nop, 0, 0, []), (.nop, 0, 0, []), (.nop, 0, 0, []), (.nop, 0, 0, []), (.iload_n 3, 1, 46, [3]), (.ireturn, 1, 47, [0])]
noncomputable def zx_c138 : List zx_RI := [(.iconst 0, 1, 1, [0]), (.istore_n 1, 1, 2, [1]), (.iconst 0, 1, 3, [0]), (.istore_n 2, 1, 4, [2]), (.iload_n 2, 1, 5, [2]), (.aload_n 0, 1, 6, [0]), (.invokevirtual 346, 3, 9, [2, 2, 12, 132, 0, 0, 1381, 1383, 52, 134, 1, 0]), (.nop, 0, 0, []), (.nop, 0, 0, []), (.if_icmp .ge 34, 3, 12, [43]), (.nop, 0, 0, []), (.nop, 0, 0, []), (.nop, 0, 0, []), (.nop, 0, 0, []), (.nop, 0, 0, []), (.nop, 0, 0, []), (.nop, 0, 0, []), (.nop, 0, 0, []), (.nop, 0, 0, []), (.nop, 0, 0, []), (.nop, 0, 0, []), (.nop, 0, 0, []), (.nop, 0, 0, []), (.nop, 0, 0, []), (.nop, 0, 0, []), (.nop, 0, 0, []), (.nop, 0, 0, []), (.nop, 0, 0, []), (.nop, 0, 0, []), (.nop, 0, 0, []), (.nop, 0, 0, []), (.nop, 0, 0, []), (.nop, 0, 0, []), (.nop, 0, 0, []), (.nop, 0, 0, []), (.nop, 0, 0, []), (.nop, 0, 0, []), (.nop, 0, 0, []), (.nop, 0, 0, []), (.nop, 0, 0, []), (.nop, 0, 0, []), (.nop, 0, 0, []), (.nop, 0, 0, []), (.iload_n 1, 1, 44, [1]), (.ireturn, 1, 45, [0])]
noncomputable def zx_c139 : List zx_RI := [(.aload_n 0, 1, 1, [0]), (.getfield 79, 3, 4, [0, 12, 40, 1425]), (.nop, 0, 0, []), (.nop, 0, 0, []), (.bipush 30, 2, 6, [30]), (.nop, 0, 0, []), (.iaload, 1, 7, []), (.sipush 999, 3, 10, [999]), (.nop, 0, 0, []), (.nop, 0, 0, []), (.if_icmp .ne 5, 3, 13, [15]), (.nop, 0, 0, []), (.nop, 0, 0, []), (.nop, 0, 0, []), (.nop, 0, 0, []), (.aload_n 0, 1, 16, [0]), (.invokevirtual 410, 3, 19, [2, 2, 12, 145, 0, 0, 1857, 1859, 96, 134, 2, 0]), (.nop, 0, 0, []), (.nop, 0, 0, []), (.aload_n 0, 1, 20, [0]), (.iconst 1, 1, 21, [1]), (.invokevirtual 413, 3, 24, [2, 2, 12, 134, 0, 0, 1861, 1863, 97, 134, 6, 1, 0]), (.nop, 0, 0, []), (.nop, 0, 0, []), (.ireturn, 1, 25, [0])]
noncomputable def zx_c140 : List zx_RI := [(.iload_n 1, 1, 1, [1]), (.iconst 0, 1, 2, [0]), (.iconst 2, 1, 3, [2]), (.invokestatic 342, 3, 6, [2, 0, 12, 143, 0, 0, 1717, 1718, 0, 134, 3, 2, 1, 0]), (.nop, 0, 0, []), (.nop, 0, 0, []), (.ifCond .ne 5, 3, 9, [11]), (.nop, 0, 0, []), (.nop, 0, 0, []), (.iconst (-1), 1, 10, [4294967295]), (.ireturn, 1, 11, [0]), (.iconst 0, 1, 12, [0]), (.istore_n 2, 1, 13, [2]), (.iload_n 2, 1, 14, [2]), (.bipush 32, 2, 16, [32]), (.nop, 0, 0, []), (.if_icmp .ge 26, 3, 19, [42]), (.nop, 0, 0, []), (.nop, 0, 0, []), (.aload_n 0, 1, 20, [0]), (.getfield 118, 3, 23, [0, 12, 58, 1443]), (.nop, 0, 0, []), (.nop, 0, 0, []), (.bipush 32, 2, 25, [32]), (.nop, 0, 0, []), (.iload_n 1, 1, 26, [1]), (.imul, 1, 27, []), (.iload_n 2, 1, 28, [2]), (.iadd, 1, 29, []), (.aload_n 0, 1, 30, [0]), (.getfield 79, 3, 33, [0, 12, 40, 1425]), (.nop, 0, 0, []), (.nop, 0, 0, []), (.iload_n 2, 1, 34, [2]), (.iaload, 1, 35, []), (.iastore, 1, 36, []), (.iinc 2 1, 3, 39, [2, 1]), (.nop, 0, 0, []), (.nop, 0, 0, []), (.goto (-26), 3, 42, [13]), (.nop, 0, 0, []), (.nop, 0, 0, []), (.aload_n 0, 1, 43, [0]), (.getfield 121, 3, 46, [0, 12, 59, 1444]), (.nop, 0, 0, []), (.nop, 0, 0, []), (.iload_n 1, 1, 47, [1]), (.iconst 1, 1, 48, [1]), (.bastore, 1, 49, []), (.aload_n 0, 1, 50, [0]), (.getfield 79, 3, 53, [0, 12, 40, 1425]), (.nop, 0, 0, []), (.nop, 0, 0, []), (.bipush 30, 2, 55, [30]), (.nop, 0, 0, []), (.iaload, 1, 56, []), (.ireturn, 1, 57, [0])]
noncomputable def zx_c141 : List zx_RI := [(.iload_n 1, 1, 1, [1]), (.iconst 0, 1, 2, [0]), (.aload_n 0, 1, 3, [0]), (.invokevirtual 339, 3, 6, [2, 2, 12, 170, 0, 0, 1377, 1379, 51, 134, 1, 0]), (.nop, 0, 0, []), (.nop, 0, 0, []), (.iconst 1, 1, 7, [1]), (.isub, 1, 8, []), (.invokestatic 342, 3, 11, [2, 0, 12, 143, 0, 0, 1717, 1718, 0, 134, 3, 2, 1, 0]), (.nop, 0, 0, []), (.nop, 0, 0, []), (.ireturn, 1, 12, [1])]
noncomputable def zx_c142 : List zx_RI := [(.aload_n 0, 1, 1, [0]), (.getfield 134, 3, 4, [0, 12, 4, 1389]), (.nop, 0, 0, []), (.nop, 0, 0, []), (.ifCond .ne 7, 3, 7, [11]), (.nop, 0, 0, []), (.nop, 0, 0, []), (.iconst 1, 1, 8, [1]), (.goto 4, 3, 11, [12]), (.nop, 0, 0, []), (.nop, 0, 0, []), (.nop, 0, 0, []), (.ireturn, 1, 13, [1])]
noncomputable def zx_c143 : List zx_RI := [(.iload_n 0, 1, 1, [0]), (.iload_n 1, 1, 2, [1]), (.if_icmp .lt 12, 3, 5, [14]), (.nop, 0, 0, []), (.nop, 0, 0, []), (.iload_n 0, 1, 6, [0]), (.iload_n 2, 1, 7, [2]), (.if_icmp .gt 7, 3, 10, [14]), (.nop, 0, 0, []), (.nop, 0, 0, []), (.iconst 1, 1, 11, [1]), (.goto 4, 3, 14, [15]), (.nop, 0, 0, []), (.nop, 0, 0, []), (.iconst 0, 1, 15, [0]), (.ireturn, 1, 16, [1])]
noncomputable def zx_c144 : List zx_RI := [(.iload_n 1, 1, 1, [1]), (.iconst 0, 1, 2, [0]), (.aload_n 0, 1, 3, [0]), (.invokevirtual 346, 3, 6, [2, 2, 12, 132, 0, 0, 1381, 1383, 52, 134, 1, 0]), (.nop, 0, 0, []), (.nop, 0, 0, []), (.iconst 1, 1, 7, [1]), (.isub, 1, 8, []), (.invokestatic 342, 3, 11, [2, 0, 12, 143, 0, 0, 1717, 1718, 0, 134, 3, 2, 1, 0]), (.nop, 0, 0, []), (.nop, 0, 0, []), (.ireturn, 1, 12, [1])]
noncomputable def zx_c145 : List zx_RI := [(.aload_n 0, 1, 1, [0]), (.getfield 358, 3, 4, [0, 12, 44, 1429]), (.nop, 0, 0, []), (.nop, 0, 0, []), (.bipush 40, 2, 6, [40]), (.nop, 0, 0, []), (.if_icmp .ne 43, 3, 9, [49]), (.nop, 0, 0, []), (.nop, 0, 0, []), (.nop, 0, 0, []), (.nop, 0, 0, []), (.nop, 0, 0, []), (.nop, 0, 0, []), (.nop, 0, 0, []), (.nop, 0, 0, []), (.nop, 0, 0, []), (.nop, 0, 0, []), (.nop, 0, 0, []), (.nop, 0, 0, []), (.nop, 0, 0, []), (.nop, 0, 0, []), (.nop, 0, 0, []), (.nop, 0, 0, []), (.nop, 0, 0, []), (.nop, 0, 0, []), (.nop, 0, 0, []), (.nop, 0, 0, []), (.nop, 0, 0, []), (.nop, 0, 0, []), (.nop, 0, 0, []), (.nop, 0, 0, []), (.nop, 0, 0, []), (.nop, 0, 0, []), (.nop, 0, 0, []), (.nop, 0, 0, []), (.nop, 0, 0, []), (.nop, 0, 0, []), (.nop, 0, 0, []), (.nop, 0, 0, []), (.nop, 0, 0, []), (.nop, 0, 0, []), (.nop, 0, 0, []), (.nop, 0, 0, []), (.nop, 0, 0, []), (.nop, 0, 0, []), (.nop, 0, 0, []), (.nop, 0, 0, []), (.nop, 0, 0, []), (.nop, 0, 0, []), (.iconst 0, 1, 50, [0]), (.istore_n 1, 1, 51, [1]), (.iload_n 1, 1, 52, [1]), (.bipush 32, 2, 54, [32]), (.nop, 0, 0, []), (.if_icmp .ge 29, 3, 57, [83]), (.nop, 0, 0, []), (.nop, 0, 0, []), (.aload_n 0, 1, 58, [0]), (.getfield 88, 3, 61, [0, 12, 43, 1428]), (.nop, 0, 0, []), (.nop, 0, 0, []), (.bipush 32, 2, 63, [32]), (.nop, 0, 0, []), (.aload_n 0, 1, 64, [0]), (.getfield 358, 3, 67, [0, 12, 44, 1429]), (.nop, 0, 0, []), (.nop, 0, 0, []), (.imul, 1, 68, []), (.iload_n 1, 1, 69, [1]), (.iadd, 1, 70, []), (.aload_n 0, 1, 71, [0]), (.getfield 79, 3, 74, [0, 12, 40, 1425]), (.nop, 0, 0, []), (.nop, 0, 0, []), (.iload_n 1, 1, 75, [1]), (.iaload, 1, 76, []), (.iastore, 1, 77, []), (.iinc 1 1, 3, 80, [1, 1]), (.nop, 0, 0, []), (.nop, 0, 0, []), (.goto (-29), 3, 83, [51]), (.nop, 0, 0, []), (.nop, 0, 0, []), (.aload_n 0, 1, 84, [0]), (.dup, 1, 85, []), (.getfield 358, 3, 88, [0, 12, 44, 1429]), (.nop, 0, 0, []), (.nop, 0, 0, []), (.iconst 1, 1, 89, [1]), (.iadd, 1, 90, []), (.putfield 358, 3, 93, [12, 44, 0, 1429]), (.nop, 0, 0, []), (.nop, 0, 0, []), (.aload_n 0, 1, 94, [0]), (.iconst 0, 1, 95, [0]), (.putfield 361, 3, 98, [12, 45, 0, 1430]), (.nop, 0, 0, []), (.nop, 0, 0, []), (.return_, 1, 99, [])]
noncomputable def zx_c146 : List zx_RI := [(.iconst 0, 1, 1, [0]), (.istore_n 1, 1, 2, [1]), (.iload_n 1, 1, 3, [1]), (.bipush 32, 2, 5, [32]), (.nop, 0, 0, []), (.if_icmp .ge 21, 3, 8, [26]), (.nop, 0, 0, []), (.nop, 0, 0, []), (.aload_n 0, 1, 9, [0]), (.getfield 82, 3, 12, [0, 12, 41, 1426]), (.nop, 0, 0, []), (.nop, 0, 0, []), (.iload_n 1, 1, 13, [1]), (.aload_n 0, 1, 14, [0]), (.getfield 79, 3, 17, [0, 12, 40, 1425]), (.nop, 0, 0, []), (.nop, 0, 0, []), (.iload_n 1, 1, 18, [1]), (.iaload, 1, 19, []), (.iastore, 1, 20, []), (.iinc 1 1, 3, 23, [1, 1]), (.nop, 0, 0, []), (.nop, 0, 0, []), (.goto (-21), 3, 26, [2]), (.nop, 0, 0, []), (.nop, 0, 0, []), (.return_, 1, 27, [])]
noncomputable def zx_c147 : List zx_RI := [(.iload_n 1, 1, 1, [1]), (.iconst 0, 1, 2, [0]), (.sipush 1000, 3, 5, [1000]), (.nop, 0, 0, []), (.nop, 0, 0, []), (.invokestatic 342, 3, 8, [2, 0, 12, 143, 0, 0, 1717, 1718, 0, 134, 3, 2, 1, 0]), (.nop, 0, 0, []), (.nop, 0, 0, []), (.ifCond .eq 15, 3, 11, [23]), (.nop, 0, 0, []), (.nop, 0, 0, []), (.aload_n 0, 1, 12, [0]), (.getfield 474, 3, 15, [0, 12, 57, 1442]), (.nop, 0, 0, []), (.nop, 0, 0, []), (.iload_n 1, 1, 16, [1]), (.iadd, 1, 17, []), (.ldc_w 454, 3, 20, [0, 100000, 1979]), (.nop, 0, 0, []), (.nop, 0, 0, []), (.if_icmp .le 5, 3, 23, [25]), (.nop, 0, 0, []), (.nop, 0, 0, []), (.iconst (-1), 1, 24, [4294967295]), (.ireturn, 1, 25, [0]), (.aload_n 0, 1, 26, [0]), (.dup, 1, 27, []), (.getfield 474, 3, 30, [0, 12, 57, 1442]), (.nop, 0, 0, []), (.nop, 0, 0, []), (.iload_n 1, 1, 31, [1]), (.iadd, 1, 32, []), (.putfield 474, 3, 35, [12, 57, 0, 1442]), (.nop, 0, 0, []), (.nop, 0, 0, []), (.aload_n 0, 1, 36, [0]), (.getfield 474, 3, 39, [0, 12, 57, 1442]), (.nop, 0, 0, []), (.nop, 0, 0, []), (.ireturn, 1, 40, [0])]
noncomputable def zx_c148 : List zx_RI := [(.iload_n 1, 1, 1, [1]), (.iconst 0, 1, 2, [0]), (.bipush 99, 2, 4, [99]), (.nop, 0, 0, []), (.invokestatic 342, 3, 7, [2, 0, 12, 143, 0, 0, 1717, 1718, 0, 134, 3, 2, 1, 0]), (.nop, 0, 0, []), (.nop, 0, 0, []), (.ifCond .ne 5, 3, 10, [12]), (.nop, 0, 0, []), (.nop, 0, 0, []), (.iconst (-1), 1, 11, [4294967295]), (.ireturn, 1, 12, [0]), (.aload_n 0, 1, 13, [0]), (.invokevirtual 401, 3, 16, [2, 2, 12, 146, 0, 0, 1837, 1839, 93, 134, 2, 0]), (.nop, 0, 0, []), (.nop, 0, 0, []), (.iconst 0, 1, 17, [0]), (.istore_n 2, 1, 18, [2]), (.iload_n 2, 1, 19, [2]), (.aload_n 0, 1, 20, [0]), (.invokevirtual 339, 3, 23, [2, 2, 12, 170, 0, 0, 1377, 1379, 51, 134, 1, 0]), (.nop, 0, 0, []), (.nop, 0, 0, []), (.if_icmp .ge 18, 3, 26, [41]), (.nop, 0, 0, []), (.nop, 0, 0, []), (.nop, 0, 0, []), (.nop, 0, 0, []), (.nop, 0, 0, []), (.nop, 0, 0, []), (.nop, 0, 0, []), (.nop, 0, 0, []), (.nop, 0, 0, []), (.nop, 0, 0, []), (.nop, 0, 0, []), (.nop, 0, 0, []), (.nop, 0, 0, []), (.nop, 0, 0, []), (.nop, 0, 0, []), (.nop, 0, 0, []), (.nop, 0, 0, []), (.aload_n 0, 1, 42, [0]), (.invokevirtual 404, 3, 45, [2, 2, 12, 138, 0, 0, 1841, 1843, 94, 134, 3, 0]), (.nop, 0, 0, []), (.nop, 0, 0, []), (.istore_n 2, 1, 46, [2]), (.aload_n 0, 1, 47, [0]), (.invokevirtual 407, 3, 50, [2, 2, 12, 117, 0, 0, 1845, 1847, 95, 134, 2, 0]), (.nop, 0, 0, []), (.nop, 0, 0, []), (.iload_n 2, 1, 51, [2]), (.ireturn, 1, 52, [0])]
noncomputable def zx_c149 : List zx_RI := [(.iconst 0, 1, 1, [0]), (.istore_n 2, 1, 2, [2]), (.iload_n 2, 1, 3, [2]), (.aload_n 0, 1, 4, [0]), (.invokevirtual 346, 3, 7, [2, 2, 12, 132, 0, 0, 1381, 1383, 52, 134, 1, 0]), (.nop, 0, 0, []), (.nop, 0, 0, []), (.if_icmp .ge 38, 3, 10, [45]), (.nop, 0, 0, []), (.nop, 0, 0, []), (.nop, 0, 0, []), (.nop, 0, 0, []), (.nop, 0, 0, []), (.nop, 0, 0, []), (.nop, 0, 0, []), (.nop, 0, 0, []), (.nop, 0, 0, []), (.nop, 0, 0, []), (.nop, 0, 0, []), (.nop, 0, 0, []), (.nop, 0, 0, []), (.nop, 0, 0, []), (.nop, 0, 0, []), (.nop, 0, 0, []), (.nop, 0, 0, []), (.nop, 0, 0, []), (.nop, 0, 0, []), (.nop, 0, 0, []), (.nop, 0, 0, []), (.nop, 0, 0, []), (.nop, 0, 0, []), (.nop, 0, 0, []), (.nop, 0, 0, []), (.nop, 0, 0, []), (.nop, 0, 0, []), (.nop, 0, 0, []), (.nop, 0, 0, []), (.nop, 0, 0, []), (.nop, 0, 0, []), (.nop, 0, 0, []), (.nop, 0, 0, []), (.nop, 0, 0, []), (.nop, 0, 0, []), (.nop, 0, 0, []), (.nop, 0, 0, []), (.aload_n 0, 1, 46, [0]), (.aload_n 0, 1, 47, [0]), (.invokevirtual 346, 3, 50, [2, 2, 12, 132, 0, 0, 1381, 1383, 52, 134, 1, 0]), (.nop, 0, 0, []), (.nop, 0, 0, []), (.putfield 367, 3, 53, [12, 47, 0, 1432]), (.nop, 0, 0, []), (.nop, 0, 0, []), (.return_, 1, 54, [])]
noncomputable def zx_c150 : List zx_RI := [(.iconst 0, 1, 1, [0]), (.istore_n 1, 1, 2, [1]), (.iload_n 1, 1, 3, [1]), (.bipush 64, 2, 5, [64]), (.nop, 0, 0, []), (.if_icmp .ge 26, 3, 8, [31]), (.nop, 0, 0, []), (.nop, 0, 0, []), (.aload_n 0, 1, 9, [0]), (.getfield 94, 3, 12, [0, 12, 48, 1433]), (.nop, 0, 0, []), (.nop, 0, 0, []), (.iload_n 1, 1, 13, [1]), (.iload_n 1, 1, 14, [1]), (.ifCond .ne 7, 3, 17, [21]), (.nop, 0, 0, []), (.nop, 0, 0, []), (.iconst 0, 1, 18, [0]), (.goto 6, 3, 21, [24]), (.nop, 0, 0, []), (.nop, 0, 0, []), (.ldc_w 454, 3, 24, [0, 100000, 1979]), (.nop, 0, 0, []), (.nop, 0, 0, []), (.iastore, 1, 25, []), (.iinc 1 1, 3, 28, [1, 1]), (.nop, 0, 0, []), (.nop, 0, 0, []), (.goto (-26), 3, 31, [2]), (.nop, 0, 0, []), (.nop, 0, 0, []), (.iconst 0, 1, 32, [0]), (.istore_n 1, 1, 33, [1]), (.iload_n 1, 1, 34, [1]), (.bipush 64, 2, 36, [64]), (.nop, 0, 0, []), (.if_icmp .ge 71, 3, 39, [107]), (.nop, 0, 0, []), (.nop, 0, 0, []), (.iconst 0, 1, 40, [0]), (.istore_n 2, 1, 41, [2]), (.iload_n 2, 1, 42, [2]), (.bipush 64, 2, 44, [64]), (.nop, 0, 0, []), (.if_icmp .ge 57, 3, 47, [101]), (.nop, 0, 0, []), (.nop, 0, 0, []), (.iconst 0, 1, 48, [0]), (.istore_n 3, 1, 49, [3]), (.iload_n 3, 1, 50, [3]), (.iconst 4, 1, 51, [4]), (.if_icmp .ge 44, 3, 54, [95]), (.nop, 0, 0, []), (.nop, 0, 0, []), (.aload_n 0, 1, 55, [0]), (.getfield 94, 3, 58, [0, 12, 48, 1433]), (.nop, 0, 0, []), (.nop, 0, 0, []), (.iload_n 2, 1, 59, [2]), (.iaload, 1, 60, []), (.iload_n 1, 1, 61, [1]), (.iconst 1, 1, 62, [1]), (.iadd, 1, 63, []), (.if_icmp .le 26, 3, 66, [89]), (.nop, 0, 0, []), (.nop, 0, 0, []), (.aload_n 0, 1, 67, [0]), (.getfield 94, 3, 70, [0, 12, 48, 1433]), (.nop, 0, 0, []), (.nop, 0, 0, []), (.iload_n 2, 1, 71, [2]), (.iload_n 3, 1, 72, [3]), (.invokestatic 420, 3, 75, [2, 0, 12, 155, 0, 0, 1885, 1886, 0, 134, 5, 1, 0]), (.nop, 0, 0, []), (.nop, 0, 0, []), (.iaload, 1, 76, []), (.iload_n 1, 1, 77, [1]), (.if_icmp .ne 12, 3, 80, [89]), (.nop, 0, 0, []), (.nop, 0, 0, []), (.aload_n 0, 1, 81, [0]), (.getfield 94, 3, 84, [0, 12, 48, 1433]), (.nop, 0, 0, []), (.nop, 0, 0, []), (.iload_n 2, 1, 85, [2]), (.iload_n 1, 1, 86, [1]), (.iconst 1, 1, 87, [1]), (.iadd, 1, 88, []), (.iastore, 1, 89, []), (.iinc 3 1, 3, 92, [3, 1]), (.nop, 0, 0, []), (.nop, 0, 0, []), (.goto (-43), 3, 95, [49]), (.nop, 0, 0, []), (.nop, 0, 0, []), (.iinc 2 1, 3, 98, [2, 1]), (.nop, 0, 0, []), (.nop, 0, 0, []), (.goto (-57), 3, 101, [41]), (.nop, 0, 0, []), (.nop, 0, 0, []), (.iinc 1 1, 3, 104, [1, 1]), (.nop, 0, 0, []), (.nop, 0, 0, []), (.goto (-71), 3, 107, [33]), (.nop, 0, 0, []), (.nop, 0, 0, []), (.return_, 1, 108, [])]
noncomputable def zx_c151 : List zx_RI := [(.iconst 0, 1, 1, [0]), (.istore_n 1, 1, 2, [1]), (.iload_n 1, 1, 3, [1]), (.bipush 32, 2, 5, [32]), (.nop, 0, 0, []), (.if_icmp .ge 16, 3, 8, [21]), (.nop, 0, 0, []), (.nop, 0, 0, []), (.aload_n 0, 1, 9, [0]), (.getfield 79, 3, 12, [0, 12, 40, 1425]), (.nop, 0, 0, []), (.nop, 0, 0, []), (.iload_n 1, 1, 13, [1]), (.iconst 0, 1, 14, [0]), (.iastore, 1, 15, []), (.iinc 1 1, 3, 18, [1, 1]), (.nop, 0, 0, []), (.nop, 0, 0, []), (.goto (-16), 3, 21, [2]), (.nop, 0, 0, []), (.nop, 0, 0, []), (.iconst 0, 1, 22, [0]), (.istore_n 1, 1, 23, [1]), (.iload_n 1, 1, 24, [1]), (.aload_n 0, 1, 25, [0]), (.invokevirtual 339, 3, 28, [2, 2, 12, 170, 0, 0, 1377, 1379, 51, 134, 1, 0]), (.nop, 0, 0, []), (.nop, 0, 0, []), (.if_icmp .ge 30, 3, 31, [58]), (.nop, 0, 0, []), (.nop, 0, 0, []), (.nop, 0, 0, []), (.nop, 0, 0, []), (.nop, 0, 0, []), (.nop, 0, 0, []), (.nop, 0, 0, []), (.nop, 0, 0, []), (.nop, 0, 0, []), (.nop, 0, 0, []), (.nop, 0, 0, []), (.nop, 0, 0, []), (.nop, 0, 0, []), (.nop, 0, 0, []), (.nop, 0, 0, []), (.nop, 0, 0, []), (.nop, 0, 0, []), (.nop, 0, 0, []), (.nop, 0, 0, []), (.nop, 0, 0, []), (.nop, 0, 0, []), (.nop, 0, 0, []), (.nop, 0, 0, []), (.nop, 0, 0, []), (.nop, 0, 0, []), (.nop, 0, 0, []), (.nop, 0, 0, []), (.nop, 0, 0, []), (.nop, 0, 0, []), (.iconst 0, 1, 59, [0]), (.istore_n 1, 1, 60, [1]), (.iload_n 1, 1, 61, [1]), (.iconst 5, 1, 62, [5]), (.if_icmp .ge 19, 3, 65, [81]), (.nop, 0, 0, []), (.nop, 0, 0, []), (.aload_n 0, 1, 66, [0]), (.getfield 79, 3, 69, [0, 12, 40, 1425]), (.nop, 0, 0, []), (.nop, 0, 0, []), (.bipush 10, 2, 71, [10]), (.nop, 0, 0, []), (.iload_n 1, 1, 72, [1]), (.iadd, 1, 73, []), (.iconst (-1), 1, 74, [4294967295]), (.iastore, 1, 75, []), (.iinc 1 1, 3, 78, [1, 1]), (.nop, 0, 0, []), (.nop, 0, 0, []), (.goto (-18), 3, 81, [60]), (.nop, 0, 0, []), (.nop, 0, 0, []), (.iconst 0, 1, 82, [0]), (.istore_n 1, 1, 83, [1]), (.iload_n 1, 1, 84, [1]), (.aload_n 0, 1, 85, [0]), (.invokevirtual 346, 3, 88, [2, 2, 12, 132, 0, 0, 1381, 1383, 52, 134, 1, 0]), (.nop, 0, 0, []), (.nop, 0, 0, []), (.if_icmp .ge 31, 3, 91, [119]), (.nop, 0, 0, []), (.nop, 0, 0, []), (.nop, 0, 0, []), (.nop, 0, 0, []), (.nop, 0, 0, []), (.nop, 0, 0, []), (.nop, 0, 0, []), (.nop, 0, 0, []), (.nop, 0, 0, []), (.nop, 0, 0, []), (.nop, 0, 0, []), (.nop, 0, 0, []), (.nop, 0, 0, []), (.nop, 0, 0, []), (.nop, 0, 0, []), (.nop, 0, 0, []), (.nop, 0, 0, []), (.nop, 0, 0, []), (.nop, 0, 0, []), (.nop, 0, 0, []), (.nop, 0, 0, []), (.nop, 0, 0, []), (.nop, 0, 0, []), (.nop, 0, 0, []), (.nop, 0, 0, []), (.nop, 0, 0, []), (.nop, 0, 0, []), (.nop, 0, 0, []), (.nop, 0, 0, []), (.nop, 0, 0, []), (.aload_n 0, 1, 120, [0]), (.getfield 79, 3, 123, [0, 12, 40, 1425]), (.nop, 0, 0, []), (.nop, 0, 0, []), (.bipush 31, 2, 125, [31]), (.nop, 0, 0, []), (.aload_n 0, 1, 126, [0]), (.getfield 33, 3, 129, [0, 12, 15, 1400]), (.nop, 0, 0, []), (.nop, 0, 0, []), (.aload_n 0, 1, 130, [0]), (.getfield 236, 3, 133, [0, 12, 30, 1415]), (.nop, 0, 0, []), (.nop, 0, 0, []), (.iaload, 1, 134, []), (.iastore, 1, 135, []), (.return_, 1, 136, [])]
noncomputable def zx_c152 : List zx_RI := [(.iload_n 1, 1, 1, [1]), (.iconst 0, 1, 2, [0]), (.aload_n 0, 1, 3, [0]), (.getfield 367, 3, 6, [0, 12, 47, 1432]), (.nop, 0, 0, []), (.nop, 0, 0, []), (.iconst 1, 1, 7, [1]), (.isub, 1, 8, []), (.invokestatic 342, 3, 11, [2, 0, 12, 143, 0, 0, 1717, 1718, 0, 134, 3, 2, 1, 0]), (.nop, 0, 0, []), (.nop, 0, 0, []), (.ifCond .eq 12, 3, 14, [23]), (.nop, 0, 0, []), (.nop, 0, 0, []), (.nop, 0, 0, []), (.nop, 0, 0, []), (.nop, 0, 0, []), (.nop, 0, 0, []), (.nop, 0, 0, []), (.nop, 0, 0, []), (.nop, 0, 0, []), (.nop, 0, 0, []), (.nop, 0, 0, []), (.bipush (-2), 2, 25, [4294967294]), (.nop, 0, 0, []), (.ireturn, 1, 26, [0])]
noncomputable def zx_c153 : List zx_RI := [(.iconst 0, 1, 1, [0]), (.istore_n 1, 1, 2, [1]), (.iconst 0, 1, 3, [0]), (.istore_n 2, 1, 4, [2]), (.iload_n 2, 1, 5, [2]), (.aload_n 0, 1, 6, [0]), (.invokevirtual 346, 3, 9, [2, 2, 12, 132, 0, 0, 1381, 1383, 52, 134, 1, 0]), (.nop, 0, 0, []), (.nop, 0, 0, []), (.if_icmp .ge 42, 3, 12, [51]), (.nop, 0, 0, []), (.nop, 0, 0, []), (.nop, 0, 0, []), (.nop, 0, 0, []), (.nop, 0, 0, []), (.nop, 0, 0, []), (.nop, 0, 0, []), (.nop, 0, 0, []), (.nop, 0, 0, []), (.nop, 0, 0, []), (.nop, 0, 0, []), (.nop, 0, 0, []), (.nop, 0, 0, []), (.nop, 0, 0, []), (.nop, 0, 0, []), (.nop, 0, 0, []), (.nop, 0, 0, []), (.nop, 0, 0, []), (.nop, 0, 0, []), (.nop, 0, 0, []), (.nop, 0, 0, []), (.nop, 0, 0, []), (.nop, 0, 0, []), (.nop, 0, 0, []), (.nop, 0, 0, []), (.nop, 0, 0, []), (.nop, 0, 0, []), (.nop, 0, 0, []), (.nop, 0, 0, []), (.nop, 0, 0, []), (.nop, 0, 0, []), (.nop, 0, 0, []), (.nop, 0, 0, []), (.nop, 0, 0, []), (.nop, 0, 0, []), (.nop, 0, 0, []), (.nop, 0, 0, []), (.nop, 0, 0, []), (.nop, 0, 0, []), (.nop, 0, 0, []), (.nop, 0, 0, []), (.iload_n 1, 1, 52, [1]), (.ireturn, 1, 53, [0])]
noncomputable def zx_c154 : List zx_RI := [(.aload_n 0, 1, 1, [0]), (.iload_n 1, 1, 2, [1]), (.invokevirtual 349, 3, 5, [2, 2, 12, 141, 0, 0, 1713, 1715, 79, 134, 2, 1, 0]), (.nop, 0, 0, []), (.nop, 0, 0, []), (.ifCond .eq 20, 3, 8, [25]), (.nop, 0, 0, []), (.nop, 0, 0, []), (.nop, 0, 0, []), (.nop, 0, 0, []), (.nop, 0, 0, []), (.nop, 0, 0, []), (.nop, 0, 0, []), (.nop, 0, 0, []), (.nop, 0, 0, []), (.nop, 0, 0, []), (.nop, 0, 0, []), (.nop, 0, 0, []), (.nop, 0, 0, []), (.nop, 0, 0, []), (.nop, 0, 0, []), (.nop, 0, 0, []), (.nop, 0, 0, []), (.nop, 0, 0, []), (.nop, 0, 0, []), (.iconst (-1), 1, 26, [4294967295]), (.ireturn, 1, 27, [0])]
noncomputable def zx_c155 : List zx_RI := [(.iload_n 0, 1, 1, [0]), (.bipush 16, 2, 3, [16]), (.nop, 0, 0, []), (.idiv, 1, 4, []), (.istore_n 2, 1, 5, [2]), (.iload_n 0, 1, 6, [0]), (.iconst 4, 1, 7, [4]), (.idiv, 1, 8, []), (.iconst 4, 1, 9, [4]), (.irem, 1, 10, []), (.istore_n 3, 1, 11, [3]), (.iload_n 0, 1, 12, [0]), (.iconst 4, 1, 13, [4]), (.irem, 1, 14, []), (.istore 4, 2, 16, [4]), (.nop, 0, 0, []), (.iload_n 1, 1, 17, [1]), (.tableswitch 87 0 2 #[27, 47, 67], 27, 44, [104, 44, 64, 84]), (.nop, 0, 0, []), (.nop, 0, 0, []), (.nop, 0, 0, []), (.nop, 0, 0, []), (.nop, 0, 0, []), (.nop, 0, 0, []), (.nop, 0, 0, []), (.nop, 0, 0, []), (.nop, 0, 0, []), (.nop, 0, 0, []), (.nop, 0, 0, []), (.nop, 0, 0, []), (.nop, 0, 0, []), (.nop, 0, 0, []), (.nop, 0, 0, []), (.nop, 0, 0, []), (.nop, 0, 0, []), (.nop, 0, 0, []), (.nop, 0, 0, []), (.nop, 0, 0, []), (.nop, 0, 0, []), (.nop, 0, 0, []), (.nop, 0, 0, []), (.nop, 0, 0, []), (.nop, 0, 0, []), (.nop, 0, 0, []), (.iload_n 2, 1, 45, [2]), (.iconst 1, 1, 46, [1]), (.iadd, 1, 47, []), (.iconst 4, 1, 48, [4]), (.irem, 1, 49, []), (.bipush 16, 2, 51, [16]), (.nop, 0, 0, []), (.imul, 1, 52, []), (.iload_n 3, 1, 53, [3]), (.iconst 1, 1, 54, [1]), (.iadd, 1, 55, []), (.iconst 4, 1, 56, [4]), (.irem, 1, 57, []), (.iconst 4, 1, 58, [4]), (.imul, 1, 59, []), (.iadd, 1, 60, []), (.iload 4, 2, 62, [4]), (.nop, 0, 0, []), (.iadd, 1, 63, []), (.ireturn, 1, 64, [0]), (.iload_n 2, 1, 65, [2]), (.bipush 16, 2, 67, [16]), (.nop, 0, 0, []), (.imul, 1, 68, []), (.iload_n 3, 1, 69, [3]), (.iconst 3, 1, 70, [3]), (.iadd, 1, 71, []), (.iconst 4, 1, 72, [4]), (.irem, 1, 73, []), (.iconst 4, 1, 74, [4]), (.imul, 1, 75, []), (.iadd, 1, 76, []), (.iload 4, 2, 78, [4]), (.nop, 0, 0, []), (.iconst 1, 1, 79, [1]), (.iadd, 1, 80, []), (.iconst 4, 1, 81, [4]), (.irem, 1, 82, []), (.iadd, 1, 83, []), (.ireturn, 1, 84, [0]), (.iload_n 2, 1, 85, [2]), (.iconst 3, 1, 86, [3]), (.iadd, 1, 87, []), (.iconst 4, 1, 88, [4]), (.irem, 1, 89, []), (.bipush 16, 2, 91, [16]), (.nop, 0, 0, []), (.imul, 1, 92, []), (.iload_n 3, 1, 93, [3]), (.iconst 4, 1, 94, [4]), (.imul, 1, 95, []), (.iadd, 1, 96, []), (.iload 4, 2, 98, [4]), (.nop, 0, 0, []), (.iconst 2, 1, 99, [2]), (.iadd, 1, 100, []), (.iconst 4, 1, 101, [4]), (.irem, 1, 102, []), (.iadd, 1, 103, []), (.ireturn, 1, 104, [0]), (.iload_n 2, 1, 105, [2]), (.iconst 1, 1, 106, [1]), (.iadd, 1, 107, []), (.iconst 4, 1, 108, [4]), (.irem, 1, 109, []), (.bipush 16, 2, 111, [16]), (.nop, 0, 0, []), (.imul, 1, 112, []), (.iload_n 3, 1, 113, [3]), (.iconst 1, 1, 114, [1]), (.iadd, 1, 115, []), (.iconst 4, 1, 116, [4]), (.irem, 1, 117, []), (.iconst 4, 1, 118, [4]), (.imul, 1, 119, []), (.iadd, 1, 120, []), (.iload 4, 2, 122, [4]), (.nop, 0, 0, []), (.iconst 1, 1, 123, [1]), (.iadd, 1, 124, []), (.iconst 4, 1, 125, [4]), (.irem, 1, 126, []), (.iadd, 1, 127, []), (.ireturn, 1, 128, [0])]
noncomputable def zx_c156 : List zx_RI := [(.aload_n 0, 1, 1, [0]), (.iload_n 1, 1, 2, [1]), (.invokevirtual 352, 3, 5, [2, 2, 12, 144, 0, 0, 1736, 1738, 83, 134, 2, 1, 0]), (.nop, 0, 0, []), (.nop, 0, 0, []), (.ifCond .eq 11, 3, 8, [16]), (.nop, 0, 0, []), (.nop, 0, 0, []), (.nop, 0, 0, []), (.nop, 0, 0, []), (.nop, 0, 0, []), (.nop, 0, 0, []), (.nop, 0, 0, []), (.nop, 0, 0, []), (.nop, 0, 0, []), (.nop, 0, 0, []), (.iconst (-1), 1, 17, [4294967295]), (.ireturn, 1, 18, [0])]
noncomputable def zx_c157 : List zx_RI := [(.iload_n 1, 1, 1, [1]), (.iconst 0, 1, 2, [0]), (.iconst 4, 1, 3, [4]), (.invokestatic 342, 3, 6, [2, 0, 12, 143, 0, 0, 1717, 1718, 0, 134, 3, 2, 1, 0]), (.nop, 0, 0, []), (.nop, 0, 0, []), (.ifCond .eq 12, 3, 9, [18]), (.nop, 0, 0, []), (.nop, 0, 0, []), (.iload_n 2, 1, 10, [2]), (.iconst 0, 1, 11, [0]), (.iconst 1, 1, 12, [1]), (.invokestatic 342, 3, 15, [2, 0, 12, 143, 0, 0, 1717, 1718, 0, 134, 3, 2, 1, 0]), (.nop, 0, 0, []), (.nop, 0, 0, []), (.ifCond .ne 5, 3, 18, [20]), (.nop, 0, 0, []), (.nop, 0, 0, []), (.iconst (-1), 1, 19, [4294967295]), (.ireturn, 1, 20, [0]), (.bipush 100, 2, 22, [100]), (.nop, 0, 0, []), (.aload_n 0, 1, 23, [0]), (.getfield 30, 3, 26, [0, 12, 14, 1399]), (.nop, 0, 0, []), (.nop, 0, 0, []), (.aload_n 0, 1, 27, [0]), (.getfield 236, 3, 30, [0, 12, 30, 1415]), (.nop, 0, 0, []), (.nop, 0, 0, []), (.iaload, 1, 31, []), (.isub, 1, 32, []), (.iload_n 1, 1, 33, [1]), (.invokestatic 429, 3, 36, [2, 0, 12, 161, 0, 0, 1932, 1933, 0, 134, 4, 1, 0]), (.nop, 0, 0, []), (.nop, 0, 0, []), (.istore_n 3, 1, 37, [3]), (.bipush 100, 2, 39, [100]), (.nop, 0, 0, []), (.iload_n 1, 1, 40, [1]), (.invokestatic 429, 3, 43, [2, 0, 12, 161, 0, 0, 1932, 1933, 0, 134, 4, 1, 0]), (.nop, 0, 0, []), (.nop, 0, 0, []), (.istore 4, 2, 45, [4]), (.nop, 0, 0, []), (.iload_n 2, 1, 46, [2]), (.ifCond .ne 7, 3, 49, [53]), (.nop, 0, 0, []), (.nop, 0, 0, []), (.iload_n 3, 1, 50, [3]), (.goto 5, 3, 53, [55]), (.nop, 0, 0, []), (.nop, 0, 0, []), (.iload 4, 2, 55, [4]), (.nop, 0, 0, []), (.iload 4, 2, 57, [4]), (.nop, 0, 0, []), (.iload_n 3, 1, 58, [3]), (.invokestatic 471, 3, 61, [2, 0, 12, 124, 0, 0, 2005, 2006, 0, 134, 5, 1, 0]), (.nop, 0, 0, []), (.nop, 0, 0, []), (.idiv, 1, 62, []), (.ireturn, 1, 63, [0])]
noncomputable def zx_c158 : List zx_RI := [(.iconst 0, 1, 1, [0]), (.istore_n 1, 1, 2, [1]), (.iconst 0, 1, 3, [0]), (.istore_n 2, 1, 4, [2]), (.iload_n 2, 1, 5, [2]), (.aload_n 0, 1, 6, [0]), (.invokevirtual 339, 3, 9, [2, 2, 12, 170, 0, 0, 1377, 1379, 51, 134, 1, 0]), (.nop, 0, 0, []), (.nop, 0, 0, []), (.if_icmp .ge 23, 3, 12, [32]), (.nop, 0, 0, []), (.nop, 0, 0, []), (.nop, 0, 0, []), (.nop, 0, 0, []), (.nop, 0, 0, []), (.nop, 0, 0, []), (.nop, 0, 0, []), (.nop, 0, 0, []), (.nop, 0, 0, []), (.nop, 0, 0, []), (.nop, 0, 0, []), (.nop, 0, 0, []), (.nop, 0, 0, []), (.nop, 0, 0, []), (.nop, 0, 0, []), (.nop, 0, 0, []), (.nop, 0, 0, []), (.nop, 0, 0, []), (.nop, 0, 0, []), (.nop, 0, 0, []), (.nop, 0, 0, []), (.nop, 0, 0, []), (.iload_n 1, 1, 33, [1]), (.ireturn, 1, 34, [0])]
noncomputable def zx_c159 : List zx_RI := [(.aload_n 0, 1, 1, [0]), (.iconst 0, 1, 2, [0]), (.putfield 367, 3, 5, [12, 47, 0, 1432]), (.nop, 0, 0, []), (.nop, 0, 0, []), (.aload_n 0, 1, 6, [0]), (.iload_n 1, 1, 7, [1]), (.invokevirtual 349, 3, 10, [2, 2, 12, 141, 0, 0, 1713, 1715, 79, 134, 2, 1, 0]), (.nop, 0, 0, []), (.nop, 0, 0, []), (.ifCond .ne 5, 3, 13, [15]), (.nop, 0, 0, []), (.nop, 0, 0, []), (.iconst (-1), 1, 14, [4294967295]), (.ireturn, 1, 15, [0])]
noncomputable def zx_c160 : List zx_RI := [(.aload_n 0, 1, 1, [0]), (.iload_n 1, 1, 2, [1]), (.invokevirtual 352, 3, 5, [2, 2, 12, 144, 0, 0, 1736, 1738, 83, 134, 2, 1, 0]), (.nop, 0, 0, []), (.nop, 0, 0, []), (.ifCond .ne 5, 3, 8, [10]), (.nop, 0, 0, []), (.nop, 0, 0, []), (.iconst (-1), 1, 9, [4294967295]), (.ireturn, 1, 10, [0])]
noncomputable def zx_c161 : List zx_RI := [(.iconst 1, 1, 1, [1]), (.istore_n 2, 1, 2, [2]), (.iconst 0, 1, 3, [0]), (.istore_n 3, 1, 4, [3]), (.iload_n 3, 1, 5, [3]), (.iload_n 1, 1, 6, [1]), (.if_icmp .ge 13, 3, 9, [19]), (.nop, 0, 0, []), (.nop, 0, 0, []), (.iload_n 2, 1, 10, [2]), (.iload_n 0, 1, 11, [0]), (.imul, 1, 12, []), (.istore_n 2, 1, 13, [2]), (.iinc 3 1, 3, 16, [3, 1]), (.nop, 0, 0, []), (.nop, 0, 0, []), (.goto (-12), 3, 19, [4]), (.nop, 0, 0, []), (.nop, 0, 0, []), (.iload_n 2, 1, 20, [2]), (.ireturn, 1, 21, [0])]
noncomputable def zx_c162 : List zx_RI := [(.aload_n 0, 1, 1, [0]), (.getfield 361, 3, 4, [0, 12, 45, 1430]), (.nop, 0, 0, []), (.nop, 0, 0, []), (.ifCond .ne 5, 3, 7, [9]), (.nop, 0, 0, []), (.nop, 0, 0, []), (.iconst 0, 1, 8, [0]), (.ireturn, 1, 9, [1])]
noncomputable def zx_c163 : List zx_RI := [(.iconst (-1), 1, 1, [4294967295]), (.istore_n 1, 1, 2, [1]), (.iconst 0, 1, 3, [0]), (.istore_n 2, 1, 4, [2]), (.iload_n 2, 1, 5, [2]), (.aload_n 0, 1, 6, [0]), (.invokevirtual 346, 3, 9, [2, 2, 12, 132, 0, 0, 1381, 1383, 52, 134, 1, 0]), (.nop, 0, 0, []), (.nop, 0, 0, []), (.if_icmp .ge 36, 3, 12, [45]), (.nop, 0, 0, []), (.nop, 0, 0, []), (.nop, 0, 0, []), (.nop, 0, 0, []), (.nop, 0, 0, []), (.nop, 0, 0, []), (.nop, 0, 0, []), (.nop, 0, 0, []), (.nop, 0, 0, []), (.nop, 0, 0, []), (.nop, 0, 0, []), (.nop, 0, 0, []), (.nop, 0, 0, []), (.nop, 0, 0, []), (.nop, 0, 0, []), (.nop, 0, 0, []), (.nop, 0, 0, []), (.nop, 0, 0, []), (.nop, 0, 0, []), (.nop, 0, 0, []), (.nop, 0, 0, []), (.nop, 0, 0, []), (.nop, 0, 0, []), (.nop, 0, 0, []), (.nop, 0, 0, []), (.nop, 0, 0, []), (.nop, 0, 0, []), (.nop, 0, 0, []), (.nop, 0, 0, []), (.nop, 0, 0, []), (.nop, 0, 0, []), (.nop, 0, 0, []), (.nop, 0, 0, []), (.nop, 0, 0, []), (.nop, 0, 0, []), (.iload_n 1, 1, 46, [1]), (.ireturn, 1, 47, [0])]
noncomputable def zx_c164 : List zx_RI := [(.iconst (-1), 1, 1, [4294967295]), (.istore_n 1, 1, 2, [1]), (.iconst (-1), 1, 3, [4294967295]), (.istore_n 2, 1, 4, [2]), (.iconst 0, 1, 5, [0]), (.istore_n 3, 1, 6, [3]), (.iload_n 3, 1, 7, [3]), (.aload_n 0, 1, 8, [0]), (.invokevirtual 339, 3, 11, [2, 2, 12, 170, 0, 0, 1377, 1379, 51, 134, 1, 0]), (.nop, 0, 0, []), (.nop, 0, 0, []), (.iconst 1, 1, 12, [1]), (.iadd, 1, 13, []), (.aload_n 0, 1, 14, [0]), (.invokevirtual 346, 3, 17, [2, 2, 12, 132, 0, 0, 1381, 1383, 52, 134, 1, 0]), (.nop, 0, 0, []), (.nop, 0, 0, []), (.invokestatic 429, 3, 20, [2, 0, 12, 161, 0, 0, 1932, 1933, 0, 134, 4, 1, 0]), (.nop, 0, 0, []), (.nop, 0, 0, []), (.if_icmp .ge 30, 3, 23, [50]), (.nop, 0, 0, []), (.nop, 0, 0, []), (.aload_n 0, 1, 24, [0]), (.iload_n 3, 1, 25, [3]), (.invokevirtual 451, 3, 28, [2, 2, 12, 165, 0, 0, 1967, 1969, 107, 134, 8, 1, 0]), (.nop, 0, 0, []), (.nop, 0, 0, []), (.istore 4, 2, 30, [4]), (.nop, 0, 0, []), (.iload 4, 2, 32, [4]), (.nop, 0, 0, []), (.iload_n 2, 1, 33, [2]), (.if_icmp .gt 6, 3, 36, [39]), (.nop, 0, 0, []), (.nop, 0, 0, []), (.nop, 0, 0, []), (.nop, 0, 0, []), (.nop, 0, 0, []), (.iload_n 3, 1, 40, [3]), (.istore_n 1, 1, 41, [1]), (.iload 4, 2, 43, [4]), (.nop, 0, 0, []), (.istore_n 2, 1, 44, [2]), (.iinc 3 1, 3, 47, [3, 1]), (.nop, 0, 0, []), (.nop, 0, 0, []), (.goto (-41), 3, 50, [6]), (.nop, 0, 0, []), (.nop, 0, 0, []), (.aload_n 0, 1, 51, [0]), (.iload_n 1, 1, 52, [1]), (.invokevirtual 444, 3, 55, [2, 2, 12, 149, 0, 0, 1947, 1949, 105, 134, 3, 1, 0]), (.nop, 0, 0, []), (.nop, 0, 0, []), (.iload_n 2, 1, 56, [2]), (.sipush 1000, 3, 59, [1000]), (.nop, 0, 0, []), (.nop, 0, 0, []), (.idiv, 1, 60, []), (.ireturn, 1, 61, [0])]
noncomputable def zx_c165 : List zx_RI := [(.aload_n 0, 1, 1, [0]), (.invokevirtual 398, 3, 4, [2, 2, 12, 178, 0, 0, 1797, 1799, 92, 134, 1, 0]), (.nop, 0, 0, []), (.nop, 0, 0, []), (.istore_n 2, 1, 5, [2]), (.aload_n 0, 1, 6, [0]), (.iload_n 1, 1, 7, [1]), (.invokevirtual 435, 3, 10, [2, 2, 12, 120, 0, 0, 1935, 1937, 102, 134, 5, 1, 0]), (.nop, 0, 0, []), (.nop, 0, 0, []), (.iload_n 2, 1, 11, [2]), (.if_icmp .eq 5, 3, 14, [16]), (.nop, 0, 0, []), (.nop, 0, 0, []), (.nop, 0, 0, []), (.nop, 0, 0, []), (.iconst 0, 1, 17, [0]), (.istore_n 3, 1, 18, [3]), (.iconst 0, 1, 19, [0]), (.istore 4, 2, 21, [4]), (.nop, 0, 0, []), (.iload 4, 2, 23, [4]), (.nop, 0, 0, []), (.aload_n 0, 1, 24, [0]), (.invokevirtual 346, 3, 27, [2, 2, 12, 132, 0, 0, 1381, 1383, 52, 134, 1, 0]), (.nop, 0, 0, []), (.nop, 0, 0, []), (.if_icmp .ge 176, 3, 30, [203]), (.nop, 0, 0, []), (.nop, 0, 0, []), (.nop, 0, 0, []), (.nop, 0, 0, []), (.nop, 0, 0, []), (.nop, 0, 0, []), (.nop, 0, 0, []), (.nop, 0, 0, []), (.nop, 0, 0, []), (.nop, 0, 0, []), (.nop, 0, 0, []), (.nop, 0, 0, []), (.nop, 0, 0, []), (.nop, 0, 0, []), (.nop, 0, 0, []), (.nop, 0, 0, []), (.nop, 0, 0, []), (.nop, 0, 0, []), (.nop, 0, 0, []), (.nop, 0, 0, []), (.nop, 0, 0, []), (.nop, 0, 0, []), (.nop, 0, 0, []), (.nop, 0, 0, []), (.nop, 0, 0, []), (.nop, 0, 0, []), (.nop, 0, 0, []), (.nop, 0, 0, []), (.nop, 0, 0, []), (.nop, 0, 0, []), (.nop, 0, 0, []), (.nop, 0, 0, []), (.nop, 0, 0, []), (.nop, 0, 0, []), (.nop, 0, 0, []), (.nop, 0, 0, []), (.nop, 0, 0, []), (.nop, 0, 0, []), (.nop, 0, 0, []), (.nop, 0, 0, []), (.nop, 0, 0, []), (.nop, 0, 0, []), (.nop, 0, 0, []), (.nop, 0, 0, []), (.nop, 0, 0, []), (.nop, 0, 0, []), (.nop, 0, 0, []), (.nop, 0, 0, []), (.nop, 0, 0, []), (.nop, 0, 0, []), (.nop, 0, 0, []), (.nop, 0, 0, []), (.nop, 0, 0, []), (.nop, 0, 0, []), (.nop, 0, 0, []), (.nop, 0, 0, []), (.nop, 0, 0, []), (.nop, 0, 0, []), (.nop, 0, 0, []), (.nop, 0, 0, []), (.nop, 0, 0, []), (.nop, 0, 0, []), (.nop, 0, 0, []), (.nop, 0, 0, []), (.nop, 0, 0, []), (.nop, 0, 0, []), (.nop, 0, 0, []), (.nop, 0, 0, []), (.nop, 0, 0, []), (.nop, 0, 0, []), (.nop, 0, 0, []), (.nop, 0, 0, []), (.nop, 0, 0, []), (.nop, 0, 0, []), (.nop, 0, 0, []), (.nop, 0, 0, []), (.nop, 0, 0, []), (.nop, 0, 0, []), (.nop, 0, 0, []), (.nop, 0, 0, []), (.nop, 0, 0, []), (.nop, 0, 0, []), (.nop, 0, 0, []), (.nop, 0, 0, []), (.nop, 0, 0, []), (.nop, 0, 0, []), (.nop, 0, 0, []), (.nop, 0, 0, []), (.nop, 0, 0, []), (.nop, 0, 0, []), (.nop, 0, 0, []), (.nop, 0, 0, []), (.nop, 0, 0, []), (.nop, 0, 0, []), (.nop, 0, 0, []), (.nop, 0, 0, []), (.nop, 0, 0, []), (.nop, 0, 0, []), (.nop, 0, 0, []), (.nop, 0, 0, []), (.nop, 0, 0, []), (.nop, 0, 0, []), (.nop, 0, 0, []), (.nop, 0, 0, []), (.nop, 0, 0, []), (.nop, 0, 0, []), (.nop, 0, 0, []), (.nop, 0, 0, []), (.nop, 0, 0, []), (.nop, 0, 0, []), (.nop, 0, 0, []), (.nop, 0, 0, []), (.nop, 0, 0, []), (.nop, 0, 0, []), (.nop, 0, 0, []), (.nop, 0, 0, []), (.nop, 0, 0, []), (.nop, 0, 0, []), (.nop, 0, 0, []), (.nop, 0, 0, []), (.nop, 0, 0, []), (.nop, 0, 0, []), (.nop, 0, 0, []), (.nop, 0, 0, []), (.nop, 0, 0, []), (.nop, 0, 0, []), (.nop, 0, 0, []), (.nop, 0, 0, []), (.nop, 0, 0, []), (.nop, 0, 0, []), (.nop, 0, 0, []), (.nop, 0, 0, []), (.nop, 0, 0, []), (.nop, 0, 0, []), (.nop, 0, 0, []), (.nop, 0, 0, []), (.nop, 0, 0, []), (.nop, 0, 0, []), (.nop, 0, 0, []), (.nop, 0, 0, []), (.nop, 0, 0, []), (.nop, 0, 0, []), (.nop, 0, 0, []), (.nop, 0, 0, []), (.nop, 0, 0, []), (.nop, 0, 0, []), (.nop, 0, 0, []), (.nop, 0, 0, []), (.nop, 0, 0, []), (.nop, 0, 0, []), (.nop, 0, 0, []), (.nop, 0, 0, []), (.nop, 0, 0, []), (.nop, 0, 0, []), (.nop, 0, 0, []), (.nop, 0, 0, []), (.nop, 0, 0, []), (.nop, 0, 0, []), (.nop, 0, 0, []), (.nop, 0, 0, []), (.nop, 0, 0, []), (.nop, 0, 0, []), (.nop, 0, 0, []), (.nop, 0, 0, []), (.nop, 0, 0, []), (.nop, 0, 0, []), (.nop, 0, 0, []), (.nop, 0, 0, []), (.nop, 0, 0, []), (.nop, 0, 0, []), (.nop, 0, 0, []), (.nop, 0, 0, []), (.nop, 0, 0, []), (.nop, 0, 0, []), (.nop, 0, 0, []), (.iload_n 3, 1, 204, [3]), (.ireturn, 1, 205, [0])]
noncomputable def zx_c166 : List zx_RI := [(.aload_n 0, 1, 1, [0]), (.iload_n 1, 1, 2, [1]), (.invokevirtual 389, 3, 5, [2, 2, 12, 125, 0, 0, 1793, 1795, 91, 134, 2, 1, 0]), (.nop, 0, 0, []), (.nop, 0, 0, []), (.ifCond .ne 5, 3, 8, [10]), (.nop, 0, 0, []), (.nop, 0, 0, []), (.iconst (-1), 1, 9, [4294967295]), (.ireturn, 1, 10, [0])]
noncomputable def zx_c167 : List zx_RI := [(.aload_n 0, 1, 1, [0]), (.iconst 0, 1, 2, [0]), (.putfield 367, 3, 5, [12, 47, 0, 1432]), (.nop, 0, 0, []), (.nop, 0, 0, []), (.aload_n 0, 1, 6, [0]), (.iload_n 1, 1, 7, [1]), (.invokevirtual 352, 3, 10, [2, 2, 12, 144, 0, 0, 1736, 1738, 83, 134, 2, 1, 0]), (.nop, 0, 0, []), (.nop, 0, 0, []), (.ifCond .eq 39, 3, 13, [49]), (.nop, 0, 0, []), (.nop, 0, 0, []), (.nop, 0, 0, []), (.nop, 0, 0, []), (.nop, 0, 0, []), (.nop, 0, 0, []), (.nop, 0, 0, []), (.nop, 0, 0, []), (.nop, 0, 0, []), (.nop, 0, 0, []), (.nop, 0, 0, []), (.nop, 0, 0, []), (.nop, 0, 0, []), (.nop, 0, 0, []), (.nop, 0, 0, []), (.nop, 0, 0, []), (.nop, 0, 0, []), (.nop, 0, 0, []), (.nop, 0, 0, []), (.nop, 0, 0, []), (.nop, 0, 0, []), (.nop, 0, 0, []), (.nop, 0, 0, []), (.nop, 0, 0, []), (.nop, 0, 0, []), (.nop, 0, 0, []), (.nop, 0, 0, []), (.nop, 0, 0, []), (.nop, 0, 0, []), (.nop, 0, 0, []), (.nop, 0, 0, []), (.nop, 0, 0, []), (.nop, 0, 0, []), (.nop, 0, 0, []), (.nop, 0, 0, []), (.nop, 0, 0, []), (.nop, 0, 0, []), (.nop, 0, 0, []), (.iconst (-1), 1, 50, [4294967295]), (.ireturn, 1, 51, [0])]
noncomputable def zx_c168 : List zx_RI := [(.aload_n 0, 1, 1, [0]), (.iload_n 1, 1, 2, [1]), (.invokevirtual 349, 3, 5, [2, 2, 12, 141, 0, 0, 1713, 1715, 79, 134, 2, 1, 0]), (.nop, 0, 0, []), (.nop, 0, 0, []), (.ifCond .eq 11, 3, 8, [16]), (.nop, 0, 0, []), (.nop, 0, 0, []), (.nop, 0, 0, []), (.nop, 0, 0, []), (.nop, 0, 0, []), (.nop, 0, 0, []), (.nop, 0, 0, []), (.nop, 0, 0, []), (.nop, 0, 0, []), (.nop, 0, 0, []), (.iconst (-1), 1, 17, [4294967295]), (.ireturn, 1, 18, [0])]
noncomputable def zx_c169 : List zx_RI := [(.aload_n 0, 1, 1, [0]), (.iconst (-1), 1, 2, [4294967295]), (.invokevirtual 441, 3, 5, [2, 2, 12, 116, 0, 0, 1928, 1930, 101, 134, 9, 1, 0]), (.nop, 0, 0, []), (.nop, 0, 0, []), (.istore_n 1, 1, 6, [1]), (.aload_n 0, 1, 7, [0]), (.iload_n 1, 1, 8, [1]), (.invokevirtual 444, 3, 11, [2, 2, 12, 149, 0, 0, 1947, 1949, 105, 134, 3, 1, 0]), (.nop, 0, 0, []), (.nop, 0, 0, []), (.aload_n 0, 1, 12, [0]), (.iload_n 1, 1, 13, [1]), (.iconst (-1), 1, 14, [4294967295]), (.invokevirtual 448, 3, 17, [2, 2, 12, 137, 0, 0, 1951, 1953, 106, 134, 5, 2, 1, 0]), (.nop, 0, 0, []), (.nop, 0, 0, []), (.ireturn, 1, 18, [0])]
noncomputable def zx_c170 : List zx_RI := [(.aload_n 0, 1, 1, [0]), (.getfield 20, 3, 4, [0, 12, 11, 1396]), (.nop, 0, 0, []), (.nop, 0, 0, []), (.aload_n 0, 1, 5, [0]), (.getfield 236, 3, 8, [0, 12, 30, 1415]), (.nop, 0, 0, []), (.nop, 0, 0, []), (.iaload, 1, 9, []), (.ireturn, 1, 10, [0])]
noncomputable def zx_c171 : List zx_RI := [(.aload_n 0, 1, 1, [0]), (.iload_n 1, 1, 2, [1]), (.invokevirtual 349, 3, 5, [2, 2, 12, 141, 0, 0, 1713, 1715, 79, 134, 2, 1, 0]), (.nop, 0, 0, []), (.nop, 0, 0, []), (.ifCond .eq 29, 3, 8, [34]), (.nop, 0, 0, []), (.nop, 0, 0, []), (.nop, 0, 0, []), (.nop, 0, 0, []), (.nop, 0, 0, []), (.nop, 0, 0, []), (.nop, 0, 0, []), (.nop, 0, 0, []), (.nop, 0, 0, []), (.nop, 0, 0, []), (.nop, 0, 0, []), (.nop, 0, 0, []), (.nop, 0, 0, []), (.nop, 0, 0, []), (.nop, 0, 0, []), (.nop, 0, 0, []), (.nop, 0, 0, []), (.nop, 0, 0, []), (.nop, 0, 0, []), (.nop, 0, 0, []), (.nop, 0, 0, []), (.nop, 0, 0, []), (.nop, 0, 0, []), (.nop, 0, 0, []), (.nop, 0, 0, []), (.nop, 0, 0, []), (.nop, 0, 0, []), (.nop, 0, 0, []), (.iconst (-1), 1, 35, [4294967295]), (.ireturn, 1, 36, [0])]
noncomputable def zx_c172 : List zx_RI := [(.iload_n 1, 1, 1, [1]), (.aload_n 0, 1, 2, [0]), (.getfield 131, 3, 5, [0, 12, 3, 1388]), (.nop, 0, 0, []), (.nop, 0, 0, []), (.if_icmp .ge 16, 3, 8, [21]), (.nop, 0, 0, []), (.nop, 0, 0, []), (.nop, 0, 0, []), (.nop, 0, 0, []), (.nop, 0, 0, []), (.nop, 0, 0, []), (.nop, 0, 0, []), (.nop, 0, 0, []), (.nop, 0, 0, []), (.nop, 0, 0, []), (.nop, 0, 0, []), (.nop, 0, 0, []), (.nop, 0, 0, []), (.nop, 0, 0, []), (.nop, 0, 0, []), (.iconst 0, 1, 22, [0]), (.ireturn, 1, 23, [0])]
noncomputable def zx_c173 : List zx_RI := [(.aload_n 0, 1, 1, [0]), (.iload_n 1, 1, 2, [1]), (.invokevirtual 352, 3, 5, [2, 2, 12, 144, 0, 0, 1736, 1738, 83, 134, 2, 1, 0]), (.nop, 0, 0, []), (.nop, 0, 0, []), (.ifCond .eq 27, 3, 8, [32]), (.nop, 0, 0, []), (.nop, 0, 0, []), (.nop, 0, 0, []), (.nop, 0, 0, []), (.nop, 0, 0, []), (.nop, 0, 0, []), (.nop, 0, 0, []), (.nop, 0, 0, []), (.nop, 0, 0, []), (.nop, 0, 0, []), (.nop, 0, 0, []), (.nop, 0, 0, []), (.nop, 0, 0, []), (.nop, 0, 0, []), (.nop, 0, 0, []), (.nop, 0, 0, []), (.nop, 0, 0, []), (.nop, 0, 0, []), (.nop, 0, 0, []), (.nop, 0, 0, []), (.nop, 0, 0, []), (.nop, 0, 0, []), (.nop, 0, 0, []), (.nop, 0, 0, []), (.nop, 0, 0, []), (.nop, 0, 0, []), (.iconst (-1), 1, 33, [4294967295]), (.ireturn, 1, 34, [0])]
noncomputable def zx_c174 : List zx_RI := [(.aload_n 0, 1, 1, [0]), (.iload_n 1, 1, 2, [1]), (.invokevirtual 352, 3, 5, [2, 2, 12, 144, 0, 0, 1736, 1738, 83, 134, 2, 1, 0]), (.nop, 0, 0, []), (.nop, 0, 0, []), (.ifCond .ne 6, 3, 8, [11]), (.nop, 0, 0, []), (.nop, 0, 0, []), (.bipush (-2), 2, 10, [4294967294]), (.nop, 0, 0, []), (.ireturn, 1, 11, [0])]
noncomputable def zx_c175 : List zx_RI := [(.iload_n 1, 1, 1, [1]), (.iconst 0, 1, 2, [0]), (.bipush 60, 2, 4, [60]), (.nop, 0, 0, []), (.invokestatic 342, 3, 7, [2, 0, 12, 143, 0, 0, 1717, 1718, 0, 134, 3, 2, 1, 0]), (.nop, 0, 0, []), (.nop, 0, 0, []), (.ifCond .ne 5, 3, 10, [12]), (.nop, 0, 0, []), (.nop, 0, 0, []), (.iconst (-1), 1, 11, [4294967295]), (.ireturn, 1, 12, [0]), (.aload_n 0, 1, 13, [0]), (.invokevirtual 401, 3, 16, [2, 2, 12, 146, 0, 0, 1837, 1839, 93, 134, 2, 0]), (.nop, 0, 0, []), (.nop, 0, 0, []), (.iconst 0, 1, 17, [0]), (.istore_n 2, 1, 18, [2]), (.iconst 0, 1, 19, [0]), (.istore_n 3, 1, 20, [3]), (.iload_n 3, 1, 21, [3]), (.iload_n 1, 1, 22, [1]), (.if_icmp .ge 17, 3, 25, [39]), (.nop, 0, 0, []), (.nop, 0, 0, []), (.iload_n 2, 1, 26, [2]), (.aload_n 0, 1, 27, [0]), (.iconst 1, 1, 28, [1]), (.invokevirtual 413, 3, 31, [2, 2, 12, 134, 0, 0, 1861, 1863, 97, 134, 6, 1, 0]), (.nop, 0, 0, []), (.nop, 0, 0, []), (.iadd, 1, 32, []), (.istore_n 2, 1, 33, [2]), (.iinc 3 1, 3, 36, [3, 1]), (.nop, 0, 0, []), (.nop, 0, 0, []), (.goto (-16), 3, 39, [20]), (.nop, 0, 0, []), (.nop, 0, 0, []), (.aload_n 0, 1, 40, [0]), (.invokevirtual 426, 3, 43, [2, 2, 12, 158, 0, 0, 1912, 1914, 100, 134, 3, 0]), (.nop, 0, 0, []), (.nop, 0, 0, []), (.istore_n 3, 1, 44, [3]), (.aload_n 0, 1, 45, [0]), (.invokevirtual 407, 3, 48, [2, 2, 12, 117, 0, 0, 1845, 1847, 95, 134, 2, 0]), (.nop, 0, 0, []), (.nop, 0, 0, []), (.iload_n 3, 1, 49, [3]), (.ireturn, 1, 50, [0])]
noncomputable def zx_c176 : List zx_RI := [(.aload_n 0, 1, 1, [0]), (.invokevirtual 355, 3, 4, [2, 2, 12, 151, 0, 0, 1373, 1375, 50, 134, 2, 0]), (.nop, 0, 0, []), (.nop, 0, 0, []), (.aload_n 0, 1, 5, [0]), (.iconst 0, 1, 6, [0]), (.putfield 358, 3, 9, [12, 44, 0, 1429]), (.nop, 0, 0, []), (.nop, 0, 0, []), (.aload_n 0, 1, 10, [0]), (.iconst 0, 1, 11, [0]), (.putfield 361, 3, 14, [12, 45, 0, 1430]), (.nop, 0, 0, []), (.nop, 0, 0, []), (.aload_n 0, 1, 15, [0]), (.iconst 0, 1, 16, [0]), (.putfield 364, 3, 19, [12, 56, 0, 1441]), (.nop, 0, 0, []), (.nop, 0, 0, []), (.aload_n 0, 1, 20, [0]), (.iconst 0, 1, 21, [0]), (.putfield 367, 3, 24, [12, 47, 0, 1432]), (.nop, 0, 0, []), (.nop, 0, 0, []), (.iconst 0, 1, 25, [0]), (.istore_n 1, 1, 26, [1]), (.iload_n 1, 1, 27, [1]), (.iconst 3, 1, 28, [3]), (.if_icmp .ge 16, 3, 31, [44]), (.nop, 0, 0, []), (.nop, 0, 0, []), (.aload_n 0, 1, 32, [0]), (.getfield 121, 3, 35, [0, 12, 59, 1444]), (.nop, 0, 0, []), (.nop, 0, 0, []), (.iload_n 1, 1, 36, [1]), (.iconst 0, 1, 37, [0]), (.bastore, 1, 38, []), (.iinc 1 1, 3, 41, [1, 1]), (.nop, 0, 0, []), (.nop, 0, 0, []), (.goto (-15), 3, 44, [26]), (.nop, 0, 0, []), (.nop, 0, 0, []), (.return_, 1, 45, [])]
noncomputable def zx_c177 : List zx_RI := [(.iload_n 1, 1, 1, [1]), (.iconst 0, 1, 2, [0]), (.iconst 1, 1, 3, [1]), (.invokestatic 342, 3, 6, [2, 0, 12, 143, 0, 0, 1717, 1718, 0, 134, 3, 2, 1, 0]), (.nop, 0, 0, []), (.nop, 0, 0, []), (.ifCond .eq 11, 3, 9, [17]), (.nop, 0, 0, []), (.nop, 0, 0, []), (.aload_n 0, 1, 10, [0]), (.iload_n 2, 1, 11, [2]), (.invokevirtual 483, 3, 14, [2, 2, 12, 131, 0, 0, 2036, 2021, 2022, 134, 4, 1, 0]), (.nop, 0, 0, []), (.nop, 0, 0, []), (.ifCond .ne 5, 3, 17, [19]), (.nop, 0, 0, []), (.nop, 0, 0, []), (.iconst (-1), 1, 18, [4294967295]), (.ireturn, 1, 19, [0])]
noncomputable def zx_c178 : List zx_RI := [(.aload_n 0, 1, 1, [0]), (.iconst (-1), 1, 2, [4294967295]), (.invokevirtual 370, 3, 5, [2, 2, 12, 179, 0, 0, 1752, 1754, 86, 134, 4, 1, 0]), (.nop, 0, 0, []), (.nop, 0, 0, []), (.ireturn, 1, 6, [0])]
noncomputable def zx_c179 : List zx_RI := [(.iconst 0, 1, 1, [0]), (.istore_n 2, 1, 2, [2]), (.iconst 0, 1, 3, [0]), (.istore_n 3, 1, 4, [3]), (.iload_n 3, 1, 5, [3]), (.aload_n 0, 1, 6, [0]), (.invokevirtual 346, 3, 9, [2, 2, 12, 132, 0, 0, 1381, 1383, 52, 134, 1, 0]), (.nop, 0, 0, []), (.nop, 0, 0, []), (.if_icmp .ge 40, 3, 12, [49]), (.nop, 0, 0, []), (.nop, 0, 0, []), (.nop, 0, 0, []), (.nop, 0, 0, []), (.nop, 0, 0, []), (.nop, 0, 0, []), (.nop, 0, 0, []), (.nop, 0, 0, []), (.nop, 0, 0, []), (.nop, 0, 0, []), (.nop, 0, 0, []), (.nop, 0, 0, []), (.nop, 0, 0, []), (.nop, 0, 0, []), (.nop, 0, 0, []), (.nop, 0, 0, []), (.nop, 0, 0, []), (.nop, 0, 0, []), (.nop, 0, 0, []), (.nop, 0, 0, []), (.nop, 0, 0, []), (.nop, 0, 0, []), (.nop, 0, 0, []), (.nop, 0, 0, []), (.nop, 0, 0, []), (.nop, 0, 0, []), (.nop, 0, 0, []), (.nop, 0, 0, []), (.nop, 0, 0, []), (.nop, 0, 0, []), (.nop, 0, 0, []), (.nop, 0, 0, []), (.nop, 0, 0, []), (.nop, 0, 0, []), (.nop, 0, 0, []), (.nop, 0, 0, []), (.nop, 0, 0, []), (.nop, 0, 0, []), (.nop, 0, 0, []), (.iload_n 2, 1, 50, [2]), (.ireturn, 1, 51, [0])]
noncomputable def zx_c180 : List zx_RI := [(.iconst 0, 1, 1, [0]), (.istore_n 1, 1, 2, [1]), (.iconst 0, 1, 3, [0]), (.istore_n 2, 1, 4, [2]), (.iload_n 2, 1, 5, [2]), (.aload_n 0, 1, 6, [0]), (.invokevirtual 346, 3, 9, [2, 2, 12, 132, 0, 0, 1381, 1383, 52, 134, 1, 0]), (.nop, 0, 0, []), (.nop, 0, 0, []), (.if_icmp .ge 21, 3, 12, [30]), (.nop, 0, 0, []), (.nop, 0, 0, []), (.nop, 0, 0, []), (.nop, 0, 0, []), (.nop, 0, 0, []), (.nop, 0, 0, []), (.nop, 0, 0, []), (.nop, 0, 0, []), (.nop, 0, 0, []), (.nop, 0, 0, []), (.nop, 0, 0, []), (.nop, 0, 0, []), (.nop, 0, 0, []), (.nop, 0, 0, []), (.nop, 0, 0, []), (.nop, 0, 0, []), (.nop, 0, 0, []), (.nop, 0, 0, []), (.nop, 0, 0, []), (.nop, 0, 0, []), (.iload_n 1, 1, 31, [1]), (.ireturn, 1, 32, [0])]
noncomputable def zx_c181 : List zx_RI := [(.iconst (-1), 1, 1, [4294967295]), (.istore_n 1, 1, 2, [1]), (.iconst 0, 1, 3, [0]), (.istore_n 2, 1, 4, [2]), (.iload_n 2, 1, 5, [2]), (.aload_n 0, 1, 6, [0]), (.invokevirtual 339, 3, 9, [2, 2, 12, 170, 0, 0, 1377, 1379, 51, 134, 1, 0]), (.nop, 0, 0, []), (.nop, 0, 0, []), (.if_icmp .ge 34, 3, 12, [43]), (.nop, 0, 0, []), (.nop, 0, 0, []), (.nop, 0, 0, []), (.nop, 0, 0, []), (.nop, 0, 0, []), (.nop, 0, 0, []), (.nop, 0, 0, []), (.nop, 0, 0, []), (.nop, 0, 0, []), (.nop, 0, 0, []), (.nop, 0, 0, []), (.nop, 0, 0, []), (.nop, 0, 0, []), (.nop, 0, 0, []), (.nop, 0, 0, []), (.nop, 0, 0, []), (.nop, 0, 0, []), (.nop, 0, 0, []), (.nop, 0, 0, []), (.nop, 0, 0, []), (.nop, 0, 0, []), (.nop, 0, 0, []), (.nop, 0, 0, []), (.nop, 0, 0, []), (.nop, 0, 0, []), (.nop, 0, 0, []), (.nop, 0, 0, []), (.nop, 0, 0, []), (.nop, 0, 0, []), (.nop, 0, 0, []), (.nop, 0, 0, []), (.nop, 0, 0, []), (.nop, 0, 0, []), (.iload_n 1, 1, 44, [1]), (.ireturn, 1, 45, [0])]
noncomputable def zx_c182 : List zx_RI := [(.aload_n 0, 1, 1, [0]), (.iload_n 1, 1, 2, [1]), (.invokevirtual 352, 3, 5, [2, 2, 12, 144, 0, 0, 1736, 1738, 83, 134, 2, 1, 0]), (.nop, 0, 0, []), (.nop, 0, 0, []), (.ifCond .eq 27, 3, 8, [32]), (.nop, 0, 0, []), (.nop, 0, 0, []), (.nop, 0, 0, []), (.nop, 0, 0, []), (.nop, 0, 0, []), (.nop, 0, 0, []), (.nop, 0, 0, []), (.nop, 0, 0, []), (.nop, 0, 0, []), (.nop, 0, 0, []), (.nop, 0, 0, []), (.nop, 0, 0, []), (.nop, 0, 0, []), (.nop, 0, 0, []), (.nop, 0, 0, []), (.nop, 0, 0, []), (.nop, 0, 0, []), (.nop, 0, 0, []), (.nop, 0, 0, []), (.nop, 0, 0, []), (.nop, 0, 0, []), (.nop, 0, 0, []), (.nop, 0, 0, []), (.nop, 0, 0, []), (.nop, 0, 0, []), (.nop, 0, 0, []), (.iconst (-1), 1, 33, [4294967295]), (.ireturn, 1, 34, [0])]
noncomputable def zx_c183 : List zx_RI := [(.iload_n 1, 1, 1, [1]), (.iconst 0, 1, 2, [0]), (.iconst 2, 1, 3, [2]), (.invokestatic 342, 3, 6, [2, 0, 12, 143, 0, 0, 1717, 1718, 0, 134, 3, 2, 1, 0]), (.nop, 0, 0, []), (.nop, 0, 0, []), (.ifCond .ne 5, 3, 9, [11]), (.nop, 0, 0, []), (.nop, 0, 0, []), (.iconst (-1), 1, 10, [4294967295]), (.ireturn, 1, 11, [0]), (.iconst (-1), 1, 12, [4294967295]), (.istore_n 2, 1, 13, [2]), (.aload_n 0, 1, 14, [0]), (.invokevirtual 404, 3, 17, [2, 2, 12, 138, 0, 0, 1841, 1843, 94, 134, 3, 0]), (.nop, 0, 0, []), (.nop, 0, 0, []), (.istore_n 3, 1, 18, [3]), (.iconst 0, 1, 19, [0]), (.istore 4, 2, 21, [4]), (.nop, 0, 0, []), (.iload 4, 2, 23, [4]), (.nop, 0, 0, []), (.bipush 25, 2, 25, [25]), (.nop, 0, 0, []), (.if_icmp .ge 86, 3, 28, [111]), (.nop, 0, 0, []), (.nop, 0, 0, []), (.iload 4, 2, 30, [4]), (.nop, 0, 0, []), (.iconst 5, 1, 31, [5]), (.idiv, 1, 32, []), (.istore 5, 2, 34, [5]), (.nop, 0, 0, []), (.iload 4, 2, 36, [4]), (.nop, 0, 0, []), (.iconst 5, 1, 37, [5]), (.irem, 1, 38, []), (.istore 6, 2, 40, [6]), (.nop, 0, 0, []), (.iload 5, 2, 42, [5]), (.nop, 0, 0, []), (.iload 6, 2, 44, [6]), (.nop, 0, 0, []), (.if_icmp .ge 61, 3, 47, [105]), (.nop, 0, 0, []), (.nop, 0, 0, []), (.aload_n 0, 1, 48, [0]), (.iload 5, 2, 50, [5]), (.nop, 0, 0, []), (.invokevirtual 389, 3, 53, [2, 2, 12, 125, 0, 0, 1793, 1795, 91, 134, 2, 1, 0]), (.nop, 0, 0, []), (.nop, 0, 0, []), (.ifCond .eq 52, 3, 56, [105]), (.nop, 0, 0, []), (.nop, 0, 0, []), (.nop, 0, 0, []), (.nop, 0, 0, []), (.nop, 0, 0, []), (.nop, 0, 0, []), (.nop, 0, 0, []), (.nop, 0, 0, []), (.nop, 0, 0, []), (.nop, 0, 0, []), (.nop, 0, 0, []), (.nop, 0, 0, []), (.nop, 0, 0, []), (.nop, 0, 0, []), (.nop, 0, 0, []), (.nop, 0, 0, []), (.nop, 0, 0, []), (.nop, 0, 0, []), (.nop, 0, 0, []), (.nop, 0, 0, []), (.nop, 0, 0, []), (.nop, 0, 0, []), (.nop, 0, 0, []), (.nop, 0, 0, []), (.nop, 0, 0, []), (.nop, 0, 0, []), (.nop, 0, 0, []), (.nop, 0, 0, []), (.nop, 0, 0, []), (.nop, 0, 0, []), (.nop, 0, 0, []), (.nop, 0, 0, []), (.nop, 0, 0, []), (.nop, 0, 0, []), (.nop, 0, 0, []), (.nop, 0, 0, []), (.nop, 0, 0, []), (.nop, 0, 0, []), (.nop, 0, 0, []), (.nop, 0, 0, []), (.nop, 0, 0, []), (.nop, 0, 0, []), (.nop, 0, 0, []), (.nop, 0, 0, []), (.nop, 0, 0, []), (.nop, 0, 0, []), (.nop, 0, 0, []), (.nop, 0, 0, []), (.nop, 0, 0, []), (.nop, 0, 0, []), (.nop, 0, 0, []), (.iinc 4 1, 3, 108, [4, 1]), (.nop, 0, 0, []), (.nop, 0, 0, []), (.goto (-87), 3, 111, [21]), (.nop, 0, 0, []), (.nop, 0, 0, []), (.iload_n 2, 1, 112, [2]), (.ifCond .ge 7, 3, 115, [119]), (.nop, 0, 0, []), (.nop, 0, 0, []), (.iconst (-1), 1, 116, [4294967295]), (.goto 25, 3, 119, [141]), (.nop, 0, 0, []), (.nop, 0, 0, []), (.nop, 0, 0, []), (.nop, 0, 0, []), (.nop, 0, 0, []), (.nop, 0, 0, []), (.nop, 0, 0, []), (.nop, 0, 0, []), (.nop, 0, 0, []), (.nop, 0, 0, []), (.nop, 0, 0, []), (.nop, 0, 0, []), (.nop, 0, 0, []), (.nop, 0, 0, []), (.nop, 0, 0, []), (.nop, 0, 0, []), (.nop, 0, 0, []), (.nop, 0, 0, []), (.nop, 0, 0, []), (.nop, 0, 0, []), (.nop, 0, 0, []), (.nop, 0, 0, []), (.nop, 0, 0, []), (.nop, 0, 0, []), (.ireturn, 1, 142, [0])]
noncomputable def zx_c184 : List zx_RI := [(.aload_n 0, 1, 1, [0]), (.getfield 358, 3, 4, [0, 12, 44, 1429]), (.nop, 0, 0, []), (.nop, 0, 0, []), (.ifCond .ne 5, 3, 7, [9]), (.nop, 0, 0, []), (.nop, 0, 0, []), (.iconst 0, 1, 8, [0]), (.ireturn, 1, 9, [1])]
noncomputable def zx_c185 : List zx_RI := [(.iload_n 1, 1, 1, [1]), (.iconst 0, 1, 2, [0]), (.aload_n 0, 1, 3, [0]), (.getfield 364, 3, 6, [0, 12, 56, 1441]), (.nop, 0, 0, []), (.nop, 0, 0, []), (.iconst 1, 1, 7, [1]), (.isub, 1, 8, []), (.invokestatic 342, 3, 11, [2, 0, 12, 143, 0, 0, 1717, 1718, 0, 134, 3, 2, 1, 0]), (.nop, 0, 0, []), (.nop, 0, 0, []), (.ifCond .eq 12, 3, 14, [23]), (.nop, 0, 0, []), (.nop, 0, 0, []), (.nop, 0, 0, []), (.nop, 0, 0, []), (.nop, 0, 0, []), (.nop, 0, 0, []), (.nop, 0, 0, []), (.nop, 0, 0, []), (.nop, 0, 0, []), (.nop, 0, 0, []), (.nop, 0, 0, []), (.iconst 0, 1, 24, [0]), (.ireturn, 1, 25, [1])]
noncomputable def zx_c186 : List zx_RI := [(.iconst (-1), 1, 1, [4294967295]), (.istore_n 1, 1, 2, [1]), (.iconst 0, 1, 3, [0]), (.istore_n 2, 1, 4, [2]), (.iload_n 2, 1, 5, [2]), (.aload_n 0, 1, 6, [0]), (.invokevirtual 346, 3, 9, [2, 2, 12, 132, 0, 0, 1381, 1383, 52, 134, 1, 0]), (.nop, 0, 0, []), (.nop, 0, 0, []), (.if_icmp .ge 44, 3, 12, [53]), (.nop, 0, 0, []), (.nop, 0, 0, []), (.nop, 0, 0, []), (.nop, 0, 0, []), (.nop, 0, 0, []), (.nop, 0, 0, []), (.nop, 0, 0, []), (.nop, 0, 0, []), (.nop, 0, 0, []), (.nop, 0, 0, []), (.nop, 0, 0, []), (.nop, 0, 0, []), (.nop, 0, 0, []), (.nop, 0, 0, []), (.nop, 0, 0, []), (.nop, 0, 0, []), (.nop, 0, 0, []), (.nop, 0, 0, []), (.nop, 0, 0, []), (.nop, 0, 0, []), (.nop, 0, 0, []), (.nop, 0, 0, []), (.nop, 0, 0, []), (.nop, 0, 0, []), (.nop, 0, 0, []), (.nop, 0, 0, []), (.nop, 0, 0, []), (.nop, 0, 0, []), (.nop, 0, 0, []), (.nop, 0, 0, []), (.nop, 0, 0, []), (.nop, 0, 0, []), (.nop, 0, 0, []), (.nop, 0, 0, []), (.nop, 0, 0, []), (.nop, 0, 0, []), (.nop, 0, 0, []), (.nop, 0, 0, []), (.nop, 0, 0, []), (.nop, 0, 0, []), (.nop, 0, 0, []), (.nop, 0, 0, []), (.nop, 0, 0, []), (.iload_n 1, 1, 54, [1]), (.ireturn, 1, 55, [0])]
noncomputable def zx_c187 : List zx_RI := [(.aload_n 0, 1, 1, [0]), (.iload_n 1, 1, 2, [1]), (.invokevirtual 352, 3, 5, [2, 2, 12, 144, 0, 0, 1736, 1738, 83, 134, 2, 1, 0]), (.nop, 0, 0, []), (.nop, 0, 0, []), (.ifCond .eq 13, 3, 8, [18]), (.nop, 0, 0, []), (.nop, 0, 0, []), (.nop, 0, 0, []), (.nop, 0, 0, []), (.nop, 0, 0, []), (.nop, 0, 0, []), (.nop, 0, 0, []), (.nop, 0, 0, []), (.nop, 0, 0, []), (.nop, 0, 0, []), (.nop, 0, 0, []), (.nop, 0, 0, []), (.iconst (-1), 1, 19, [4294967295]), (.ireturn, 1, 20, [0])]
noncomputable def zx_c188 : List zx_RI := [(.iload_n 1, 1, 1, [1]), (.iconst 0, 1, 2, [0]), (.iconst 1, 1, 3, [1]), (.invokestatic 342, 3, 6, [2, 0, 12, 143, 0, 0, 1717, 1718, 0, 134, 3, 2, 1, 0]), (.nop, 0, 0, []), (.nop, 0, 0, []), (.ifCond .ne 5, 3, 9, [11]), (.nop, 0, 0, []), (.nop, 0, 0, []), (.iconst (-1), 1, 10, [4294967295]), (.ireturn, 1, 11, [0]), (.aload_n 0, 1, 12, [0]), (.invokevirtual 455, 3, 15, [2, 2, 12, 150, 0, 0, 1975, 1977, 108, 134, 4, 0]), (.nop, 0, 0, []), (.nop, 0, 0, []), (.iconst 0, 1, 16, [0]), (.istore_n 2, 1, 17, [2]), (.iconst 1, 1, 18, [1]), (.istore_n 3, 1, 19, [3]), (.iload_n 3, 1, 20, [3]), (.bipush 64, 2, 22, [64]), (.nop, 0, 0, []), (.if_icmp .ge 26, 3, 25, [48]), (.nop, 0, 0, []), (.nop, 0, 0, []), (.aload_n 0, 1, 26, [0]), (.getfield 94, 3, 29, [0, 12, 48, 1433]), (.nop, 0, 0, []), (.nop, 0, 0, []), (.iload_n 3, 1, 30, [3]), (.iaload, 1, 31, []), (.aload_n 0, 1, 32, [0]), (.getfield 94, 3, 35, [0, 12, 48, 1433]), (.nop, 0, 0, []), (.nop, 0, 0, []), (.iload_n 2, 1, 36, [2]), (.iaload, 1, 37, []), (.if_icmp .le 5, 3, 40, [42]), (.nop, 0, 0, []), (.nop, 0, 0, []), (.iload_n 3, 1, 41, [3]), (.istore_n 2, 1, 42, [2]), (.iinc 3 1, 3, 45, [3, 1]), (.nop, 0, 0, []), (.nop, 0, 0, []), (.goto (-26), 3, 48, [19]), (.nop, 0, 0, []), (.nop, 0, 0, []), (.iload_n 1, 1, 49, [1]), (.ifCond .ne 7, 3, 52, [56]), (.nop, 0, 0, []), (.nop, 0, 0, []), (.iload_n 2, 1, 53, [2]), (.goto 9, 3, 56, [62]), (.nop, 0, 0, []), (.nop, 0, 0, []), (.aload_n 0, 1, 57, [0]), (.getfield 94, 3, 60, [0, 12, 48, 1433]), (.nop, 0, 0, []), (.nop, 0, 0, []), (.iload_n 2, 1, 61, [2]), (.iaload, 1, 62, []), (.ireturn, 1, 63, [0])]
noncomputable def zx_c189 : List zx_RI := [(.iload_n 0, 1, 1, [0]), (.iload_n 0, 1, 2, [0]), (.iconst 1, 1, 3, [1]), (.iushr, 1, 4, []), (.ldc_w 265, 3, 7, [0, 1431655765, 1251]), (.nop, 0, 0, []), (.nop, 0, 0, []), (.iand, 1, 8, []), (.isub, 1, 9, []), (.istore_n 0, 1, 10, [0]), (.iload_n 0, 1, 11, [0]), (.ldc_w 266, 3, 14, [0, 858993459, 1252]), (.nop, 0, 0, []), (.nop, 0, 0, []), (.iand, 1, 15, []), (.iload_n 0, 1, 16, [0]), (.iconst 2, 1, 17, [2]), (.iushr, 1, 18, []), (.ldc_w 266, 3, 21, [0, 858993459, 1252]), (.nop, 0, 0, []), (.nop, 0, 0, []), (.iand, 1, 22, []), (.iadd, 1, 23, []), (.istore_n 0, 1, 24, [0]), (.iload_n 0, 1, 25, [0]), (.iload_n 0, 1, 26, [0]), (.iconst 4, 1, 27, [4]), (.iushr, 1, 28, []), (.iadd, 1, 29, []), (.ldc_w 267, 3, 32, [0, 252645135, 1253]), (.nop, 0, 0, []), (.nop, 0, 0, []), (.iand, 1, 33, []), (.istore_n 0, 1, 34, [0]), (.iload_n 0, 1, 35, [0]), (.iload_n 0, 1, 36, [0]), (.bipush 8, 2, 38, [8]), (.nop, 0, 0, []), (.iushr, 1, 39, []), (.iadd, 1, 40, []), (.istore_n 0, 1, 41, [0]), (.iload_n 0, 1, 42, [0]), (.iload_n 0, 1, 43, [0]), (.bipush 16, 2, 45, [16]), (.nop, 0, 0, []), (.iushr, 1, 46, []), (.iadd, 1, 47, []), (.istore_n 0, 1, 48, [0]), (.iload_n 0, 1, 49, [0]), (.bipush 63, 2, 51, [63]), (.nop, 0, 0, []), (.iand, 1, 52, []), (.ireturn, 1, 53, [0])]
noncomputable def zx_c190 : List zx_RI := [(.aload_n 0, 1, 1, [0]), (.invokevirtual 492, 3, 4, [2, 1, 0, 193, 0, 0, 176, 177, 178, 119, 1, 0]), (.nop, 0, 0, []), (.nop, 0, 0, []), (.ifCond .eq 12, 3, 7, [16]), (.nop, 0, 0, []), (.nop, 0, 0, []), (.aload_n 0, 1, 8, [0]), (.getfield 9, 3, 11, [1, 0, 2065]), (.nop, 0, 0, []), (.nop, 0, 0, []), (.iload_n 1, 1, 12, [1]), (.invokestatic 495, 3, 15, [2, 0, 0, 195, 0, 0, 180, 181, 0, 120, 2, 1, 0]), (.nop, 0, 0, []), (.nop, 0, 0, []), (.ireturn, 1, 16, [4])]
noncomputable def zx_c191 : List zx_RI := [(.iload_n 0, 1, 1, [0]), (.iload_n 1, 1, 2, [1]), (.getstatic 1053, 3, 5, [2, 186]), (.nop, 0, 0, []), (.nop, 0, 0, []), (.invokestatic 1059, 3, 8, [2, 0, 0, 196, 0, 0, 188, 189, 0, 121, 3, 2, 1, 0]), (.nop, 0, 0, []), (.nop, 0, 0, []), (.pop, 1, 9, []), (.return_, 1, 10, [])]
noncomputable def zx_c192 : List zx_RI := [(.getstatic 38, 3, 3, [1, 170]), (.nop, 0, 0, []), (.nop, 0, 0, []), (.ifCond .eq 10, 3, 6, [13]), (.nop, 0, 0, []), (.nop, 0, 0, []), (.aload_n 0, 1, 7, [0]), (.getfield 15, 3, 10, [1, 1, 2066]), (.nop, 0, 0, []), (.nop, 0, 0, []), (.goto 4, 3, 13, [14]), (.nop, 0, 0, []), (.nop, 0, 0, []), (.nop, 0, 0, []), (.ireturn, 1, 15, [5])]
noncomputable def zx_c193 : List zx_RI := [(.getstatic 38, 3, 3, [1, 170]), (.nop, 0, 0, []), (.nop, 0, 0, []), (.ifCond .eq 14, 3, 6, [17]), (.nop, 0, 0, []), (.nop, 0, 0, []), (.aload_n 0, 1, 7, [0]), (.getfield 15, 3, 10, [1, 1, 2066]), (.nop, 0, 0, []), (.nop, 0, 0, []), (.ifCond .ne 7, 3, 13, [17]), (.nop, 0, 0, []), (.nop, 0, 0, []), (.iconst 1, 1, 14, [1]), (.goto 4, 3, 17, [18]), (.nop, 0, 0, []), (.nop, 0, 0, []), (.nop, 0, 0, []), (.ireturn, 1, 19, [1])]
noncomputable def zx_c194 : List zx_RI := [(.aload_n 0, 1, 1, [0]), (.getfield 9, 3, 4, [1, 0, 2065]), (.nop, 0, 0, []), (.nop, 0, 0, []), (.arraylength, 1, 5, []), (.aload_n 0, 1, 6, [0]), (.invokevirtual 335, 3, 9, [2, 1, 0, 192, 0, 0, 166, 167, 168, 119, 1, 0]), (.nop, 0, 0, []), (.nop, 0, 0, []), (.ishr, 1, 10, []), (.ireturn, 1, 11, [0])]
noncomputable def zx_c195 : List zx_RI := [(.iload_n 1, 1, 1, [1]), (.aload_n 0, 1, 2, [0]), (.arraylength, 1, 3, []), (.invokestatic 9, 3, 6, [2, 0, 0, 191, 0, 0, 183, 184, 0, 119, 2, 1, 0]), (.nop, 0, 0, []), (.nop, 0, 0, []), (.aload_n 0, 1, 7, [0]), (.iload_n 1, 1, 8, [1]), (.baload, 1, 9, []), (.sipush 255, 3, 12, [255]), (.nop, 0, 0, []), (.nop, 0, 0, []), (.iand, 1, 13, []), (.i2c, 1, 14, []), (.ireturn, 1, 15, [4])]
noncomputable def zx_c196 : List zx_RI := [(.iload_n 0, 1, 1, [0]), (.ifCond .lt 8, 3, 4, [9]), (.nop, 0, 0, []), (.nop, 0, 0, []), (.iload_n 0, 1, 5, [0]), (.iload_n 1, 1, 6, [1]), (.if_icmp .lt 10, 3, 9, [16]), (.nop, 0, 0, []), (.nop, 0, 0, []), (.nop, 0, 0, []), (.nop, 0, 0, []), (.nop, 0, 0, []), (.nop, 0, 0, []), (.nop, 0, 0, []), (.nop, 0, 0, []), (.nop, 0, 0, []), (.iload_n 0, 1, 17, [0]), (.ireturn, 1, 18, [0])]
noncomputable def zx_code : List (List zx_RI) := [zx_c0, zx_c1, zx_c2, zx_c3, zx_c4, zx_c5, zx_c6, zx_c7, zx_c8, zx_c9, zx_c10, zx_c11, zx_c12, zx_c13, zx_c14, zx_c15, zx_c16, zx_c17, zx_c18, zx_c19, zx_c20, zx_c21, zx_c22, zx_c23, zx_c24, zx_c25, zx_c26, zx_c27, zx_c28, zx_c29, zx_c30, zx_c31, zx_c32, zx_c33, zx_c34, zx_c35, zx_c36, zx_c37, zx_c38, zx_c39, zx_c40, zx_c41, zx_c42, zx_c43, zx_c44, zx_c45, zx_c46, zx_c47, zx_c48, zx_c49, zx_c50, zx_c51, zx_c52, zx_c53, zx_c54, zx_c55, zx_c56, zx_c57, zx_c58, zx_c59, zx_c60, zx_c61, zx_c62, zx_c63, zx_c64, zx_c65, zx_c66, zx_c67, zx_c68, zx_c69, zx_c70, zx_c71, zx_c72, zx_c73, zx_c74, zx_c75, zx_c76, zx_c77, zx_c78, zx_c79, zx_c80, zx_c81, zx_c82, zx_c83, zx_c84, zx_c85, zx_c86, zx_c87, zx_c88, zx_c89, zx_c90, zx_c91, zx_c92, zx_c93, zx_c94, zx_c95, zx_c96, zx_c97, zx_c98, zx_c99, zx_c100, zx_c101, zx_c102, zx_c103, zx_c104, zx_c105, zx_c106, zx_c107, zx_c108, zx_c109, zx_c110, zx_c111, zx_c112, zx_c113, zx_c114, zx_c115, zx_c116, zx_c117, zx_c118, zx_c119, zx_c120, zx_c121, zx_c122, zx_c123, zx_c124, zx_c125, zx_c126, zx_c127, zx_c128, zx_c129, zx_c130, zx_c131, zx_c132, zx_c133, zx_c134, zx_c135, zx_c136, zx_c137, zx_c138, zx_c139, zx_c140, zx_c141, zx_c142, zx_c143, zx_c144, zx_c145, zx_c146, zx_c147, zx_c148, zx_c149, zx_c150, zx_c151, zx_c152, zx_c153, zx_c154, zx_c155, zx_c156, zx_c157, zx_c158, zx_c159, zx_c160, zx_c161, zx_c162, zx_c163, zx_c164, zx_c165, zx_c166, zx_c167, zx_c168, zx_c169, zx_c170, zx_c171, zx_c172, zx_c173, zx_c174, zx_c175, zx_c176, zx_c177, zx_c178, zx_c179, zx_c180, zx_c181, zx_c182, zx_c183, zx_c184, zx_c185, zx_c186, zx_c187, zx_c188, zx_c189, zx_c190, zx_c191, zx_c192, zx_c193, zx_c194, zx_c195, zx_c196]
noncomputable def zx_nam : List MethodName := [⟨"DeckChairsLaw", "law", "([I)Z"⟩, ⟨"DeckChairs", "<init>", "()V"⟩, ⟨"DeckChairs", "about", "(I)I"⟩, ⟨"DeckChairs", "ask", "(II)I"⟩, ⟨"DeckChairs", "back", "(I)I"⟩, ⟨"DeckChairs", "beach", "()I"⟩, ⟨"DeckChairs", "beginAnew", "()V"⟩, ⟨"DeckChairs", "best", "(II)I"⟩, ⟨"DeckChairs", "broke", "()I"⟩, ⟨"DeckChairs", "chair", "(II)I"⟩, ⟨"DeckChairs", "change", "(II)I"⟩, ⟨"DeckChairs", "commonDivisor", "(II)I"⟩, ⟨"DeckChairs", "couples", "()I"⟩, ⟨"DeckChairs", "end", "(I)I"⟩, ⟨"DeckChairs", "envy", "(I)I"⟩, ⟨"DeckChairs", "fault", "(I)I"⟩, ⟨"DeckChairs", "feed", "(IIIII)I"⟩, ⟨"DeckChairs", "fill", "(II)I"⟩, ⟨"DeckChairs", "firstGreatest", "([II)I"⟩, ⟨"DeckChairs", "fits", "(I)I"⟩, ⟨"DeckChairs", "gap", "()I"⟩, ⟨"DeckChairs", "had", "(II)I"⟩, ⟨"DeckChairs", "hour", "()I"⟩, ⟨"DeckChairs", "image", "(I)I"⟩, ⟨"DeckChairs", "isChair", "(I)Z"⟩, ⟨"DeckChairs", "isSitter", "(I)Z"⟩, ⟨"DeckChairs", "later", "(I)I"⟩, ⟨"DeckChairs", "law", "(I)I"⟩, ⟨"DeckChairs", "layFound", "()V"⟩, ⟨"DeckChairs", "lies", "(I)I"⟩, ⟨"DeckChairs", "lonely", "()I"⟩, ⟨"DeckChairs", "move", "(II)I"⟩, ⟨"DeckChairs", "noon", "(II)I"⟩, ⟨"DeckChairs", "odds", "(II)I"⟩, ⟨"DeckChairs", "opening", "(I)I"⟩, ⟨"DeckChairs", "out", "(I)I"⟩, ⟨"DeckChairs", "putOnTape", "(I)V"⟩, ⟨"DeckChairs", "redo", "()Z"⟩, ⟨"DeckChairs", "richest", "()I"⟩, ⟨"DeckChairs", "ring", "()I"⟩, ⟨"DeckChairs", "rise", "(I)I"⟩, ⟨"DeckChairs", "rivals", "(II)I"⟩, ⟨"DeckChairs", "row", "(II)I"⟩, ⟨"DeckChairs", "seat", "()I"⟩, ⟨"DeckChairs", "seen", "(IIZ)I"⟩, ⟨"DeckChairs", "sit", "(II)I"⟩, ⟨"DeckChairs", "sitter", "(II)I"⟩, ⟨"DeckChairs", "standing", "(I)I"⟩, ⟨"DeckChairs", "sure", "(II)I"⟩, ⟨"DeckChairs", "takings", "()I"⟩, ⟨"DeckChairs", "thinkOn", "(IZ)V"⟩, ⟨"DeckChairs", "throne", "()I"⟩, ⟨"DeckChairs", "toll", "(I)I"⟩, ⟨"DeckChairs", "trade", "(I)I"⟩, ⟨"DeckChairs", "undo", "()Z"⟩, ⟨"DeckChairs", "untell", "(I)Z"⟩, ⟨"DeckChairs", "veteran", "()I"⟩, ⟨"DeckChairs", "will", "(II)I"⟩, ⟨"DeckChairs", "worst", "(I)I"⟩, ⟨"DeckChairs$Duel", "<init>", "()V"⟩, ⟨"DeckChairs$Formula", "<init>", "()V"⟩, ⟨"DeckChairs$Formula", "clear", "()V"⟩, ⟨"DeckChairs$Guesses", "<init>", "()V"⟩, ⟨"DeckChairs$Guesses", "begin", "(LDeckChairs$Told;)V"⟩, ⟨"DeckChairs$Guesses", "fitting", "(I)I"⟩, ⟨"DeckChairs$Guesses", "goOn", "(I)I"⟩, ⟨"DeckChairs$Guesses", "takeBack", "(I)Z"⟩, ⟨"DeckChairs$Hinge", "<init>", "()V"⟩, ⟨"DeckChairs$Hinge", "joint", "(II)I"⟩, ⟨"DeckChairs$Hinge", "measure", "()V"⟩, ⟨"DeckChairs$Hinge", "movesFrom", "(I)I"⟩, ⟨"DeckChairs$Hinge", "shifted", "(III)I"⟩, ⟨"DeckChairs$Parser", "<init>", "()V"⟩, ⟨"DeckChairs$Parser", "goTo", "(I)V"⟩, ⟨"DeckChairs$Parser", "parse", "([BILDeckChairs$Told;)Z"⟩, ⟨"DeckChairs$Past", "<init>", "()V"⟩, ⟨"DeckChairs$Past", "begin", "(LDeckChairs$Scene;)V"⟩, ⟨"DeckChairs$Past", "keep", "(LDeckChairs$Scene;)V"⟩, ⟨"DeckChairs$Past", "stepBack", "(LDeckChairs$Scene;)Z"⟩, ⟨"DeckChairs$Past", "stepOn", "(LDeckChairs$Scene;)Z"⟩, ⟨"DeckChairs$Scene", "<init>", "(LDeckChairs$Told;)V"⟩, ⟨"DeckChairs$Scene", "begin", "(LDeckChairs$Told;)V"⟩, ⟨"DeckChairs$Scene", "blow", "()V"⟩, ⟨"DeckChairs$Scene", "chairs", "()I"⟩, ⟨"DeckChairs$Scene", "copyFrom", "(LDeckChairs$Scene;)V"⟩, ⟨"DeckChairs$Scene", "freeOnes", "()I"⟩, ⟨"DeckChairs$Scene", "openOnes", "()I"⟩, ⟨"DeckChairs$Scene", "passHour", "(Z)I"⟩, ⟨"DeckChairs$Scene", "sitters", "()I"⟩, ⟨"DeckChairs$Scene", "taken", "()I"⟩, ⟨"DeckChairs$Scene", "takenByOthers", "(I)I"⟩, ⟨"DeckChairs$Scene", "worthOfAll", "()I"⟩, ⟨"DeckChairs$Scene", "writeTo", "([II)V"⟩, ⟨"DeckChairs$Seater", "<init>", "()V"⟩, ⟨"DeckChairs$Seater", "dealAnew", "(LDeckChairs$Scene;)I"⟩, ⟨"DeckChairs$Seater", "dealFrom", "(IIII)V"⟩, ⟨"DeckChairs$Seater", "remember", "(II)V"⟩, ⟨"DeckChairs$Seater", "seatAllBut", "(LDeckChairs$Scene;I)I"⟩, ⟨"DeckChairs$Seater", "seatFrom", "(II)V"⟩, ⟨"DeckChairs$Seater", "weigh", "(I)V"⟩, ⟨"DeckChairs$Shelf", "<init>", "(I)V"⟩, ⟨"DeckChairs$Shelf", "put", "(ILDeckChairs$Scene;)V"⟩, ⟨"DeckChairs$Tokens", "<init>", "()V"⟩, ⟨"DeckChairs$Tokens", "isLetter", "(I)Z"⟩, ⟨"DeckChairs$Tokens", "kind", "(I)I"⟩, ⟨"DeckChairs$Tokens", "letter", "(I)I"⟩, ⟨"DeckChairs$Tokens", "read", "([BI)V"⟩, ⟨"DeckChairs$Tokens", "wordIn", "(Ljava/lang/String;I)J"⟩, ⟨"DeckChairs$Told", "<init>", "()V"⟩, ⟨"DeckChairs$Told", "clear", "()V"⟩, ⟨"DeckChairsModel", "<init>", "()V"⟩, ⟨"DeckChairsModel", "about", "(I)I"⟩, ⟨"DeckChairsModel", "ask", "(II)I"⟩, ⟨"DeckChairsModel", "back", "(I)I"⟩, ⟨"DeckChairsModel", "beach", "()I"⟩, ⟨"DeckChairsModel", "best", "(II)I"⟩, ⟨"DeckChairsModel", "bestSeating", "(I)I"⟩, ⟨"DeckChairsModel", "bringBack", "()V"⟩, ⟨"DeckChairsModel", "broke", "()I"⟩, ⟨"DeckChairsModel", "chair", "(II)I"⟩, ⟨"DeckChairsModel", "chairsIn", "(I)I"⟩, ⟨"DeckChairsModel", "change", "(II)I"⟩, ⟨"DeckChairsModel", "clearBank", "()V"⟩, ⟨"DeckChairsModel", "couples", "()I"⟩, ⟨"DeckChairsModel", "divisor", "(II)I"⟩, ⟨"DeckChairsModel", "doesSit", "(I)Z"⟩, ⟨"DeckChairsModel", "end", "(I)I"⟩, ⟨"DeckChairsModel", "envy", "(I)I"⟩, ⟨"DeckChairsModel", "fault", "(I)I"⟩, ⟨"DeckChairsModel", "feed", "(IIIII)I"⟩, ⟨"DeckChairsModel", "fill", "(II)I"⟩, ⟨"DeckChairsModel", "fits", "(I)I"⟩, ⟨"DeckChairsModel", "folk", "()I"⟩, ⟨"DeckChairsModel", "gap", "()I"⟩, ⟨"DeckChairsModel", "goHour", "(Z)I"⟩, ⟨"DeckChairsModel", "goOn", "()V"⟩, ⟨"DeckChairsModel", "had", "(II)I"⟩, ⟨"DeckChairsModel", "hadIn", "(II)I"⟩, ⟨"DeckChairsModel", "hadTogether", "()I"⟩, ⟨"DeckChairsModel", "hour", "()I"⟩, ⟨"DeckChairsModel", "image", "(I)I"⟩, ⟨"DeckChairsModel", "isChair", "(I)Z"⟩, ⟨"DeckChairsModel", "isGood", "()Z"⟩, ⟨"DeckChairsModel", "isIn", "(III)Z"⟩, ⟨"DeckChairsModel", "isSitter", "(I)Z"⟩, ⟨"DeckChairsModel", "keepAct", "()V"⟩, ⟨"DeckChairsModel", "keepNow", "()V"⟩, ⟨"DeckChairsModel", "later", "(I)I"⟩, ⟨"DeckChairsModel", "law", "(I)I"⟩, ⟨"DeckChairsModel", "layChairs", "(I)V"⟩, ⟨"DeckChairsModel", "layMoves", "()V"⟩, ⟨"DeckChairsModel", "layTold", "()V"⟩, ⟨"DeckChairsModel", "lies", "(I)I"⟩, ⟨"DeckChairsModel", "lonely", "()I"⟩, ⟨"DeckChairsModel", "move", "(II)I"⟩, ⟨"DeckChairsModel", "moved", "(II)I"⟩, ⟨"DeckChairsModel", "noon", "(II)I"⟩, ⟨"DeckChairsModel", "odds", "(II)I"⟩, ⟨"DeckChairsModel", "openSet", "()I"⟩, ⟨"DeckChairsModel", "opening", "(I)I"⟩, ⟨"DeckChairsModel", "out", "(I)I"⟩, ⟨"DeckChairsModel", "power", "(II)I"⟩, ⟨"DeckChairsModel", "redo", "()Z"⟩, ⟨"DeckChairsModel", "richest", "()I"⟩, ⟨"DeckChairsModel", "ring", "()I"⟩, ⟨"DeckChairsModel", "ringOf", "(I)I"⟩, ⟨"DeckChairsModel", "rise", "(I)I"⟩, ⟨"DeckChairsModel", "rivals", "(II)I"⟩, ⟨"DeckChairsModel", "row", "(II)I"⟩, ⟨"DeckChairsModel", "seat", "()I"⟩, ⟨"DeckChairsModel", "seats", "()I"⟩, ⟨"DeckChairsModel", "seen", "(IIZ)I"⟩, ⟨"DeckChairsModel", "sign", "(I)I"⟩, ⟨"DeckChairsModel", "sit", "(II)I"⟩, ⟨"DeckChairsModel", "sitter", "(II)I"⟩, ⟨"DeckChairsModel", "standing", "(I)I"⟩, ⟨"DeckChairsModel", "startAnew", "()V"⟩, ⟨"DeckChairsModel", "sure", "(II)I"⟩, ⟨"DeckChairsModel", "taken", "()I"⟩, ⟨"DeckChairsModel", "takenBut", "(I)I"⟩, ⟨"DeckChairsModel", "takings", "()I"⟩, ⟨"DeckChairsModel", "throne", "()I"⟩, ⟨"DeckChairsModel", "toll", "(I)I"⟩, ⟨"DeckChairsModel", "trade", "(I)I"⟩, ⟨"DeckChairsModel", "undo", "()Z"⟩, ⟨"DeckChairsModel", "untell", "(I)Z"⟩, ⟨"DeckChairsModel", "veteran", "()I"⟩, ⟨"DeckChairsModel", "will", "(II)I"⟩, ⟨"DeckChairsModel", "worst", "(I)I"⟩, ⟨"java/lang/Integer", "bitCount", "(I)I"⟩, ⟨"java/lang/String", "charAt", "(I)C"⟩, ⟨"java/lang/String", "checkIndex", "(II)V"⟩, ⟨"java/lang/String", "coder", "()B"⟩, ⟨"java/lang/String", "isLatin1", "()Z"⟩, ⟨"java/lang/String", "length", "()I"⟩, ⟨"java/lang/StringLatin1", "charAt", "([BI)C"⟩, ⟨"jdk/internal/util/Preconditions", "checkIndex", "(IILjava/util/function/BiFunction;)I"⟩]
noncomputable def zx_byt : List ByteArray := [code, prog_1_method_1_code, prog_1_method_50_code, prog_1_method_47_code, prog_1_method_49_code, prog_1_method_4_code, prog_1_method_51_code, prog_1_method_28_code, prog_1_method_32_code, prog_1_method_6_code, prog_1_method_12_code, prog_1_method_60_code, prog_1_method_34_code, prog_1_method_3_code, prog_1_method_25_code, prog_1_method_5_code, prog_1_method_2_code, prog_1_method_14_code, prog_1_method_59_code, prog_1_method_45_code, prog_1_method_31_code, prog_1_method_8_code, prog_1_method_9_code, prog_1_method_48_code, prog_1_method_53_code, prog_1_method_54_code, prog_1_method_44_code, prog_1_method_38_code, prog_1_method_56_code, prog_1_method_41_code, prog_1_method_30_code, prog_1_method_13_code, prog_1_method_29_code, prog_1_method_40_code, prog_1_method_22_code, prog_1_method_19_code, prog_1_method_52_code, prog_1_method_16_code, prog_1_method_36_code, prog_1_method_24_code, prog_1_method_11_code, prog_1_method_27_code, prog_1_method_26_code, prog_1_method_20_code, prog_1_method_42_code, prog_1_method_10_code, prog_1_method_7_code, prog_1_method_18_code, prog_1_method_46_code, prog_1_method_37_code, prog_1_method_57_code, prog_1_method_33_code, prog_1_method_21_code, prog_1_method_23_code, prog_1_method_15_code, prog_1_method_43_code, prog_1_method_35_code, prog_1_method_17_code, prog_1_method_39_code, prog_2_method_1_code, prog_3_method_1_code, prog_3_method_2_code, prog_4_method_1_code, prog_4_method_2_code, prog_4_method_6_code, prog_4_method_5_code, prog_4_method_4_code, prog_5_method_1_code, prog_5_method_2_code, prog_5_method_7_code, prog_5_method_4_code, prog_5_method_6_code, prog_6_method_1_code, prog_6_method_3_code, prog_6_method_2_code, prog_7_method_1_code, prog_7_method_2_code, prog_7_method_3_code, prog_7_method_4_code, prog_7_method_5_code, prog_8_method_1_code, prog_8_method_2_code, prog_8_method_25_code, prog_8_method_6_code, prog_8_method_3_code, prog_8_method_15_code, prog_8_method_12_code, prog_8_method_23_code, prog_8_method_7_code, prog_8_method_13_code, prog_8_method_14_code, prog_8_method_20_code, prog_8_method_4_code, prog_9_method_1_code, prog_9_method_9_code, prog_9_method_10_code, prog_9_method_8_code, prog_9_method_2_code, prog_9_method_4_code, prog_9_method_5_code, prog_10_method_1_code, prog_10_method_2_code, prog_11_method_1_code, prog_11_method_15_code, prog_11_method_2_code, prog_11_method_13_code, prog_11_method_5_code, prog_11_method_12_code, prog_12_method_1_code, prog_12_method_2_code, prog_14_method_1_code, prog_14_method_128_code, prog_14_method_125_code, prog_14_method_127_code, prog_14_method_17_code, prog_14_method_69_code, prog_14_method_101_code, prog_14_method_55_code, prog_14_method_74_code, prog_14_method_66_code, prog_14_method_99_code, prog_14_method_88_code, prog_14_method_16_code, prog_14_method_77_code, prog_14_method_42_code, prog_14_method_51_code, prog_14_method_130_code, prog_14_method_81_code, prog_14_method_37_code, prog_14_method_129_code, prog_14_method_91_code, prog_14_method_122_code, prog_14_method_45_code, prog_14_method_72_code, prog_14_method_65_code, prog_14_method_9_code, prog_14_method_68_code, prog_14_method_102_code, prog_14_method_64_code, prog_14_method_84_code, prog_14_method_126_code, prog_14_method_46_code, prog_14_method_6_code, prog_14_method_38_code, prog_14_method_47_code, prog_14_method_82_code, prog_14_method_54_code, prog_14_method_119_code, prog_14_method_80_code, prog_14_method_103_code, prog_14_method_109_code, prog_14_method_53_code, prog_14_method_97_code, prog_14_method_71_code, prog_14_method_90_code, prog_14_method_89_code, prog_14_method_70_code, prog_14_method_116_code, prog_14_method_58_code, prog_14_method_110_code, prog_14_method_96_code, prog_14_method_43_code, prog_14_method_93_code, prog_14_method_75_code, prog_14_method_108_code, prog_14_method_107_code, prog_14_method_86_code, prog_14_method_115_code, prog_14_method_73_code, prog_14_method_104_code, prog_14_method_44_code, prog_14_method_117_code, prog_14_method_2_code, prog_14_method_85_code, prog_14_method_67_code, prog_14_method_95_code, prog_14_method_52_code, prog_14_method_123_code, prog_14_method_57_code, prog_14_method_56_code, prog_14_method_79_code, prog_14_method_76_code, prog_14_method_105_code, prog_14_method_106_code, prog_14_method_92_code, prog_14_method_118_code, prog_14_method_78_code, prog_14_method_94_code, prog_14_method_111_code, prog_16_method_49_code, prog_18_method_56_code, prog_18_method_155_code, prog_18_method_152_code, prog_18_method_154_code, prog_18_method_54_code, prog_19_method_2_code, prog_22_method_11_code]
/-- most locals, what is returned, most cells, most slots, the place of its code among the words -/
noncomputable def zx_inf : List (Nat × Option FieldType × Nat × Nat × Nat) := [(4, (some .boolean), 0, 0, 0), (1, none, 72, 11323, 141), (2, (some .int), 0, 0, 1358), (8, (some .int), 0, 0, 1339), (2, (some .int), 0, 0, 1353), (2, (some .int), 0, 0, 694), (2, none, 0, 0, 584), (7, (some .int), 0, 0, 1218), (3, (some .int), 0, 0, 1238), (3, (some .int), 0, 0, 918), (4, (some .int), 0, 0, 1032), (6, (some .int), 0, 0, 1280), (2, (some .int), 0, 0, 1247), (2, (some .int), 0, 0, 690), (5, (some .int), 0, 0, 1188), (2, (some .int), 0, 0, 914), (6, (some .int), 0, 0, 682), (3, (some .int), 0, 0, 1047), (4, (some .int), 0, 0, 467), (2, (some .int), 0, 0, 1313), (4, (some .int), 0, 0, 1234), (3, (some .int), 0, 0, 943), (2, (some .int), 0, 0, 967), (2, (some .int), 0, 0, 1348), (2, (some .boolean), 0, 0, 922), (2, (some .boolean), 0, 0, 939), (2, (some .int), 0, 0, 1304), (5, (some .int), 0, 0, 1269), (2, none, 0, 0, 1133), (2, (some .int), 0, 0, 1284), (4, (some .int), 0, 0, 1228), (3, (some .int), 0, 0, 1040), (8, (some .int), 0, 0, 1222), (7, (some .int), 0, 0, 1277), (6, (some .int), 0, 0, 1153), (3, (some .int), 0, 0, 1093), (3, none, 0, 0, 686), (1, (some .boolean), 0, 0, 1068), (1, (some .int), 0, 0, 1261), (2, (some .int), 0, 0, 1175), (3, (some .int), 0, 0, 1027), (4, (some .int), 0, 0, 1197), (6, (some .int), 0, 0, 1192), (2, (some .int), 0, 0, 1097), (4, (some .int), 0, 0, 1288), (3, (some .int), 0, 0, 1010), (3, (some .int), 0, 0, 935), (2, (some .int), 0, 0, 1088), (4, (some .int), 0, 0, 1329), (3, (some .int), 0, 0, 1265), (4, none, 0, 0, 1080), (1, (some .int), 0, 0, 1242), (3, (some .int), 0, 0, 1141), (8, (some .int), 0, 0, 1167), (1, (some .boolean), 0, 0, 1052), (2, (some .boolean), 0, 0, 1296), (3, (some .int), 0, 0, 1257), (3, (some .int), 0, 0, 1076), (2, (some .int), 0, 0, 1273), (1, none, 2, 50, 522), (1, none, 4, 670, 276), (1, none, 0, 0, 706), (1, none, 7, 405, 543), (4, none, 0, 0, 607), (4, (some .int), 0, 0, 1317), (2, (some .int), 0, 0, 1308), (2, (some .boolean), 0, 0, 1300), (2, none, 2, 128, 451), (2, (some .int), 0, 0, 462), (6, none, 1, 64, 456), (2, (some .int), 0, 0, 1157), (6, (some .int), 0, 0, 459), (1, none, 5, 4827, 149), (2, none, 0, 0, 802), (5, (some .boolean), 0, 0, 698), (1, none, 2, 1313, 418), (2, none, 0, 0, 592), (2, none, 0, 0, 1001), (2, (some .boolean), 0, 0, 1056), (2, (some .boolean), 0, 0, 1072), (2, none, 6, 30, 375), (3, none, 0, 0, 588), (3, none, 0, 0, 988), (1, (some .int), 0, 0, 1105), (2, none, 0, 0, 1084), (1, (some .int), 0, 0, 992), (3, (some .int), 0, 0, 996), (4, (some .int), 0, 0, 971), (1, (some .int), 0, 0, 1109), (1, (some .int), 0, 0, 979), (4, (some .int), 0, 0, 951), (4, (some .int), 0, 0, 1036), (3, none, 0, 0, 600), (1, none, 5, 65, 481), (5, (some .int), 0, 0, 1179), (9, none, 0, 0, 1184), (3, none, 0, 0, 1128), (5, (some .int), 0, 0, 1101), (4, none, 0, 0, 1115), (4, none, 0, 0, 1119), (2, none, 1, 1312, 424), (3, none, 0, 0, 596), (3, none, 4, 4819, 155), (1, (some .boolean), 0, 0, 212), (2, (some .int), 0, 0, 806), (1, (some .int), 0, 0, 216), (6, none, 0, 0, 710), (5, (some .long), 0, 0, 161), (1, none, 11, 707, 270), (1, none, 0, 0, 702), (1, none, 35, 7784, 1363), (2, (some .int), 0, 0, 2056), (5, (some .int), 0, 0, 2040), (3, (some .int), 0, 0, 2052), (2, (some .int), 0, 0, 1569), (6, (some .int), 0, 0, 1784), (9, (some .int), 0, 0, 1931), (2, none, 0, 0, 1848), (3, (some .int), 0, 0, 1812), (3, (some .int), 0, 0, 1712), (5, (some .int), 0, 0, 1938), (3, (some .int), 0, 0, 1876), (1, none, 0, 0, 1368), (3, (some .int), 0, 0, 1824), (5, (some .int), 0, 0, 2007), (2, (some .boolean), 0, 0, 1796), (2, (some .int), 0, 0, 2064), (5, (some .int), 0, 0, 1852), (2, (some .int), 0, 0, 1708), (8, (some .int), 0, 0, 2060), (3, (some .int), 0, 0, 1891), (4, (some .int), 0, 0, 2023), (1, (some .int), 0, 0, 1384), (4, (some .int), 0, 0, 1804), (6, (some .int), 0, 0, 1864), (3, none, 0, 0, 1573), (3, (some .int), 0, 0, 1747), (5, (some .int), 0, 0, 1954), (3, (some .int), 0, 0, 1844), (1, (some .int), 0, 0, 1856), (3, (some .int), 0, 0, 2048), (2, (some .boolean), 0, 0, 1716), (1, (some .boolean), 0, 0, 1609), (3, (some .boolean), 0, 0, 1719), (2, (some .boolean), 0, 0, 1739), (2, none, 0, 0, 1860), (2, none, 0, 0, 1840), (2, (some .int), 0, 0, 2019), (3, (some .int), 0, 0, 1836), (3, none, 0, 0, 1950), (4, none, 0, 0, 1978), (2, none, 0, 0, 1376), (2, (some .int), 0, 0, 1923), (3, (some .int), 0, 0, 1792), (3, (some .int), 0, 0, 1884), (5, (some .int), 0, 0, 1887), (8, (some .int), 0, 0, 1788), (5, (some .int), 0, 0, 2004), (3, (some .int), 0, 0, 1915), (5, (some .int), 0, 0, 1974), (4, (some .int), 0, 0, 1919), (4, (some .int), 0, 0, 1934), (1, (some .boolean), 0, 0, 1903), (3, (some .int), 0, 0, 1816), (5, (some .int), 0, 0, 1966), (8, (some .int), 0, 0, 1970), (3, (some .int), 0, 0, 1872), (7, (some .int), 0, 0, 1987), (6, (some .int), 0, 0, 1808), (2, (some .int), 0, 0, 1927), (1, (some .int), 0, 0, 1380), (4, (some .int), 0, 0, 2011), (2, (some .int), 0, 0, 1577), (3, (some .int), 0, 0, 1868), (3, (some .int), 0, 0, 1735), (4, (some .int), 0, 0, 1911), (2, none, 0, 0, 1372), (4, (some .int), 0, 0, 2035), (1, (some .int), 0, 0, 1800), (4, (some .int), 0, 0, 1755), (3, (some .int), 0, 0, 1832), (3, (some .int), 0, 0, 1820), (2, (some .int), 0, 0, 1958), (8, (some .int), 0, 0, 1962), (1, (some .boolean), 0, 0, 1895), (2, (some .boolean), 0, 0, 2015), (3, (some .int), 0, 0, 1828), (5, (some .int), 0, 0, 1907), (4, (some .int), 0, 0, 1983), (1, (some .int), 0, 0, 1250), (2, (some .char), 0, 0, 175), (2, none, 0, 0, 185), (1, (some .byte), 0, 0, 169), (1, (some .boolean), 0, 0, 179), (1, (some .int), 0, 0, 165), (2, (some .char), 0, 0, 182), (3, (some .int), 0, 0, 190)]
end
section
/-! which handler an instruction has; the executor -/
def zx_a1 (a : List Nat) (f : Nat → zx_Hd) : zx_Hd := match a with
  | i :: _ => f i
  | _ => zx_bad
def zx_a2 (a : List Nat) (f : Nat → Nat → zx_Hd) : zx_Hd := match a with
  | i :: j :: _ => f i j
  | _ => zx_bad
def zx_a3 (a : List Nat) (f : Nat → Nat → Nat → zx_Hd) : zx_Hd := match a with
  | i :: j :: k :: _ => f i j k
  | _ => zx_bad
def zx_bx (t : Nat) : Bool := Nat.beq t 1 || Nat.beq t 2
noncomputable def zx_inv (a : List Nat) (nx : Nat) : zx_Hd := match a with
  | 0 :: _ => zx_oin nx
  | 1 :: _ => zx_cpy nx
  | 4 :: _ => zx_mmx nx
  | 5 :: _ => zx_mmn nx
  | _ :: rk :: ci :: k :: mc :: ms :: _ :: _ :: _ :: _ :: mx :: is => zx_call rk ci k mc ms mx is nx
  | _ => zx_bad
noncomputable def zx_h (xa : List (Nat × Nat × List zx_V)) (e : zx_RI) : zx_Hd := match e.1 with
  | .aload_n _ => zx_a1 e.2.2.2 fun i => zx_load zx_isA i e.2.2.1
  | .aload _ => zx_a1 e.2.2.2 fun i => zx_load zx_isA i e.2.2.1
  | .iload_n _ => zx_a1 e.2.2.2 fun i => zx_load zx_isI i e.2.2.1
  | .iload _ => zx_a1 e.2.2.2 fun i => zx_load zx_isI i e.2.2.1
  | .lload_n _ => zx_a1 e.2.2.2 fun i => zx_load zx_isL i e.2.2.1
  | .istore_n _ => zx_a1 e.2.2.2 fun i => zx_sto1 zx_isI i e.2.2.1
  | .istore _ => zx_a1 e.2.2.2 fun i => zx_sto1 zx_isI i e.2.2.1
  | .astore_n _ => zx_a1 e.2.2.2 fun i => zx_sto1 zx_isA i e.2.2.1
  | .lstore_n _ => zx_a1 e.2.2.2 fun i => zx_sto2 i e.2.2.1
  | .iconst _ => zx_a1 e.2.2.2 fun n => zx_push (.inl n) e.2.2.1
  | .bipush _ => zx_a1 e.2.2.2 fun n => zx_push (.inl n) e.2.2.1
  | .sipush _ => zx_a1 e.2.2.2 fun n => zx_push (.inl n) e.2.2.1
  | .lconst _ => zx_a1 e.2.2.2 fun n => zx_push (.inr (.inr (.inl n))) e.2.2.1
  | .ldc _ => zx_a2 e.2.2.2 fun t n => cond (Nat.beq t 0) (zx_push (.inl n) e.2.2.1) (zx_push (.inr (.inr (.inr (.inr (.inl n))))) e.2.2.1)
  | .ldc_w _ => zx_a2 e.2.2.2 fun t n => cond (Nat.beq t 0) (zx_push (.inl n) e.2.2.1) zx_bad
  | .ldc2_w _ => zx_a1 e.2.2.2 fun n => zx_push (.inr (.inr (.inl n))) e.2.2.1
  | .iinc _ _ => zx_a2 e.2.2.2 fun i c => zx_inc i c e.2.2.1
  | .iadd => zx_bin zx_add e.2.2.1
  | .isub => zx_bin (zx_bop (fun a b => (a + (4294967296 - b % 4294967296)) % 4294967296)) e.2.2.1
  | .imul => zx_bin (zx_bop (fun a b => (a * b) % 4294967296)) e.2.2.1
  | .iand => zx_bin (zx_bop (zx_i2 fun x y => x &&& y)) e.2.2.1
  | .ior => zx_bin (zx_bop (zx_i2 fun x y => x ||| y)) e.2.2.1
  | .ixor => zx_bin (zx_bop (zx_i2 fun x y => x ^^^ y)) e.2.2.1
  | .ishl => zx_bin (zx_bop (zx_i2 fun x y => x <<< (y &&& 31))) e.2.2.1
  | .ishr => zx_bin (zx_bop (zx_i2 fun x y => x >>> (y &&& 31))) e.2.2.1
  | .iushr => zx_bin (zx_bop (zx_i2 fun x y => (x.toUInt32 >>> (y.toUInt32 &&& Int32.toUInt32 31)).toInt32)) e.2.2.1
  | .idiv => zx_bin (zx_div (zx_i2 fun x y => x / y)) e.2.2.1
  | .irem => zx_bin (zx_div (zx_i2 fun x y => x - x / y * y)) e.2.2.1
  | .ladd => zx_bin (zx_lop (zx_l2 fun x y => x + y)) e.2.2.1
  | .lmul => zx_bin (zx_lop (zx_l2 fun x y => x * y)) e.2.2.1
  | .i2l => zx_una (zx_cvL fun n => (Int32.ofNat n).toInt64.toUInt64.toNat) e.2.2.1
  | .i2b => zx_una (zx_cvI fun n => ((Int32.ofNat n).toInt8.toInt32).toUInt32.toNat) e.2.2.1
  | .i2c => zx_una (zx_cvI fun n => (((Int32.ofNat n).toUInt32 % 65536).toInt32).toUInt32.toNat) e.2.2.1
  | .dup => zx_stk zx_dup e.2.2.1
  | .pop => zx_stk zx_pop e.2.2.1
  | .dup2 => zx_stk zx_dup2 e.2.2.1
  | .ifCond c _ => zx_a1 e.2.2.2 fun t => zx_if1 c t e.2.2.1
  | .if_icmp c _ => zx_a1 e.2.2.2 fun t => zx_if2 c t e.2.2.1
  | .goto _ => zx_a1 e.2.2.2 fun t => zx_goto t
  | .tableswitch _ lo _ _ => zx_tsw lo e.2.2.2
  | .getfield _ => zx_a3 e.2.2.2 fun t ci j => cond (Nat.beq t 0) (zx_gf ci j e.2.2.1) (cond (Nat.beq ci 0) (zx_xgf zx_xv e.2.2.1) (zx_xgf zx_xc e.2.2.1))
  | .putfield _ => zx_a3 e.2.2.2 fun ci j t => zx_pf ci j t e.2.2.1
  | .getstatic _ => zx_a1 e.2.2.2 fun t => cond (Nat.beq t 0) (zx_push (.inr (.inr (.inr (.inr (.inl 0))))) e.2.2.1) (cond (Nat.beq t 1) (zx_push (.inl 1) e.2.2.1) (zx_push (.inr (.inr (.inr (.inr (.inl 7))))) e.2.2.1))
  | .new _ => zx_a2 e.2.2.2 fun ci N => zx_new ci N (zx_dfl.getD ci []) e.2.2.1
  | .newarray t => (match t with
    | .int => zx_newa 0 (.inl 0) e.2.2.1
    | .byte => zx_newa 1 (.inl 0) e.2.2.1
    | .boolean => zx_newa 2 (.inl 0) e.2.2.1
    | .long => zx_newa 3 (.inr (.inr (.inl 0))) e.2.2.1
    | _ => zx_bad)
  | .arraylength => zx_alen xa e.2.2.1
  | .iaload => zx_ald xa (fun t => Nat.beq t 0) e.2.2.1
  | .baload => zx_ald xa zx_bx e.2.2.1
  | .iastore => zx_ast (fun t => Nat.beq t 0) e.2.2.1
  | .bastore => zx_ast zx_bx e.2.2.1
  | .lastore => zx_ast (fun t => Nat.beq t 3) e.2.2.1
  | .invokevirtual _ => zx_inv e.2.2.2 e.2.2.1
  | .invokestatic _ => zx_inv e.2.2.2 e.2.2.1
  | .invokespecial _ => zx_inv e.2.2.2 e.2.2.1
  | .ireturn => zx_a1 e.2.2.2 fun t => zx_ret t
  | .lreturn => zx_ret 3
  | .return_ => zx_vret
  | _ => zx_bad
noncomputable def zx_ent (xa : List (Nat × Nat × List zx_V)) (k pc : Nat) : zx_Hd := match (zx_code.getD k [])[pc]? with
  | some e => zx_h xa e
  | none => zx_bad
noncomputable def zx_run (xa : List (Nat × Nat × List zx_V)) (n : Nat) : zx_Rec := Nat.rec (motive := fun _ => zx_Rec) (fun _ _ _ _ _ _ _ _ => none)
  (fun _ ih fr g w cs sl lo st pc => cond (Nat.beq pc fr.2.2.1) (some [(g, w, .inr (cs, sl, lo, st))]) (zx_ent xa fr.2.1 pc ih fr g w cs sl lo st pc)) n
noncomputable def zx_xa0 : List (Nat × Nat × List zx_V) := zx_xa.filter fun q => !Nat.beq q.1 1
def zx_full : Int × Int := (-2147483648, 2147483647)
def zx_g0 : zx_G := [zx_full, zx_full, zx_full, zx_full, zx_full, zx_full]
end
section
/-! what the picture says of the heap -/
def zx_ft (t : Nat) : FieldType := match t with
  | 0 => .int
  | 1 => .byte
  | 2 => .boolean
  | _ => .long
def zy_v (ρ : Nat → Int32) (ex : Nat → Value) (as : List Nat) (a : zx_V) (v : Value) : Prop := match a with
  | .inl n => v = .int (Int32.ofNat n)
  | .inr (.inl none) => v = .null
  | .inr (.inl (some k)) => ∃ q, as[k]? = some q ∧ v = .ref q
  | .inr (.inr (.inl n)) => v = .long (Int64.ofNat n)
  | .inr (.inr (.inr (.inl i))) => v = .int (ρ i)
  | .inr (.inr (.inr (.inr (.inl j)))) => v = ex j
  | .inr (.inr (.inr (.inr (.inr _)))) => ∃ x, v = .int x
def zy_s (ρ : Nat → Int32) (ex : Nat → Value) (as : List Nat) : List zx_V → List Value → Prop
  | [], [] => True
  | a :: r, v :: t => zy_v ρ ex as a v ∧ zy_s ρ ex as r t
  | _, _ => False
def zy_l (ρ : Nat → Int32) (ex : Nat → Value) (as : List Nat) (ls : Array Slot) (nL : Nat) (lo : zx_L) : Prop := ls.size = nL ∧ lv_wf ls ∧ ∀ q ∈ lo, ∃ v, ls[q.1]? = some (.val v) ∧ zy_v ρ ex as q.2 v
def zy_e (ρ : Nat → Int32) (ex : Nat → Value) (tys : List (ClassId × FieldType)) (as : List Nat) (e : zx_E) (q : va_E) : Prop := match e, q with
  | .inl (t, vs), .inl (cA, n, .inl f) => t < 3 ∧ (∃ i : Nat, tys[i]? = some (cA, zx_ft t)) ∧ n = vs.length ∧ ∀ (j : Nat) (a : zx_V), vs[j]? = some a → zy_v ρ ex as a (.int (f j))
  | .inl (t, vs), .inl (cA, n, .inr (.inl f)) => t = 3 ∧ (∃ i : Nat, tys[i]? = some (cA, .long)) ∧ n = vs.length ∧ ∀ (j : Nat) (a : zx_V), vs[j]? = some a → zy_v ρ ex as a (.long (f j))
  | .inr (c, fs), .inr (c', gs) => c = c' ∧ zy_s ρ ex as fs gs
  | _, _ => False
def zy_w (ρ : Nat → Int32) (ex : Nat → Value) (tys : List (ClassId × FieldType)) (as : List Nat) (w : zx_Wd) (ws : va_W) : Prop := as.length = w.length ∧ ws.length = w.length ∧ ∀ (k : Nat) (e : zx_E), w[k]? = some e → ∃ (q : va_E) (a : Nat), as[k]? = some a ∧ ws[k]? = some (a, q) ∧ zy_e ρ ex tys as e q
def zy_g (ρ : Nat → Int32) (g : zx_G) : Prop := ∀ (i : Nat) (q : Int × Int), g[i]? = some q → q.1 ≤ (ρ i).toInt ∧ (ρ i).toInt ≤ q.2
/-- one list of addresses goes on from another -/
def zy_p (as bs : List Nat) : Prop := ∀ (k q : Nat), as[k]? = some q → bs[k]? = some q
theorem zy_p.rf {as : List Nat} : zy_p as as := fun _ _ h => h
theorem zy_p.tr {as bs cs : List Nat} (h1 : zy_p as bs) (h2 : zy_p bs cs) : zy_p as cs := fun k q h => h2 k q (h1 k q h)
theorem zy_p.ap {as : List Nat} (q : Nat) : zy_p as (as ++ [q]) := by
  intro k x h
  have hk : k < as.length := (List.getElem?_eq_some_iff.mp h).1
  rw [List.getElem?_append_left hk]
  exact h
section ZY
variable {ρ : Nat → Int32} {ex : Nat → Value} {as bs : List Nat} {tys tys2 : List (ClassId × FieldType)}
theorem zy_v.mono (h : zy_p as bs) {a : zx_V} {v : Value} (hv : zy_v ρ ex as a v) : zy_v ρ ex bs a v := by
  match a, hv with
  | .inl _, hv => exact hv
  | .inr (.inl none), hv => exact hv
  | .inr (.inl (some k)), ⟨q, h1, h2⟩ => exact ⟨q, h _ _ h1, h2⟩
  | .inr (.inr (.inl _)), hv => exact hv
  | .inr (.inr (.inr (.inl _))), hv => exact hv
  | .inr (.inr (.inr (.inr (.inl _)))), hv => exact hv
  | .inr (.inr (.inr (.inr (.inr _)))), hv => exact hv
theorem zy_s.mono (h : zy_p as bs) : ∀ {st : List zx_V} {t : List Value}, zy_s ρ ex as st t → zy_s ρ ex bs st t
  | [], [], _ => trivial
  | _ :: _, _ :: _, ⟨h1, h2⟩ => ⟨h1.mono h, zy_s.mono h h2⟩
theorem zy_l.mono (h : zy_p as bs) {ls : Array Slot} {nL : Nat} {lo : zx_L} (hl : zy_l ρ ex as ls nL lo) : zy_l ρ ex bs ls nL lo :=
  ⟨hl.1, hl.2.1, fun q hq => by obtain ⟨v, h1, h2⟩ := hl.2.2 q hq; exact ⟨v, h1, h2.mono h⟩⟩
theorem zy_e.mono (h : zy_p as bs) (ht : ∀ (i : Nat) (q : ClassId × FieldType), tys[i]? = some q → ∃ j : Nat, tys2[j]? = some q) {e : zx_E} {q : va_E} (he : zy_e ρ ex tys as e q) : zy_e ρ ex tys2 bs e q := by
  match e, q, he with
  | .inl (t, vs), .inl (cA, n, .inl f), ⟨h1, ⟨i, h2⟩, h3, h4⟩ => exact ⟨h1, ht i _ h2, h3, fun j a ha => (h4 j a ha).mono h⟩
  | .inl (t, vs), .inl (cA, n, .inr (.inl f)), ⟨h1, ⟨i, h2⟩, h3, h4⟩ => exact ⟨h1, ht i _ h2, h3, fun j a ha => (h4 j a ha).mono h⟩
  | .inr (c, fs), .inr (c', gs), ⟨h1, h2⟩ => exact ⟨h1, h2.mono h⟩
theorem zy_isI {a : zx_V} {v : Value} (h : zx_isI a = true) (hv : zy_v ρ ex as a v) : ∃ x, v = .int x := by
  match a, h, hv with
  | .inl n, _, hv => exact ⟨_, hv⟩
  | .inr (.inr (.inr (.inl i))), _, hv => exact ⟨_, hv⟩
  | .inr (.inr (.inr (.inr (.inr _)))), _, hv => exact hv
theorem zy_isA (hex : ∀ j, ex j = .null ∨ ∃ a, ex j = .ref a) {a : zx_V} {v : Value} (h : zx_isA a = true) (hv : zy_v ρ ex as a v) : v = .null ∨ ∃ q, v = .ref q := by
  match a, h, hv with
  | .inr (.inl none), _, hv => exact Or.inl hv
  | .inr (.inl (some k)), _, ⟨q, _, h2⟩ => exact Or.inr ⟨q, h2⟩
  | .inr (.inr (.inr (.inr (.inl j)))), _, hv => rw [show v = ex j from hv]; exact hex j
theorem zy_isL {a : zx_V} {v : Value} (h : zx_isL a = true) (hv : zy_v ρ ex as a v) : ∃ x, v = .long x := by
  match a, h, hv with
  | .inr (.inr (.inl n)), _, hv => exact ⟨_, hv⟩
theorem zy_cat (hex : ∀ j, ex j = .null ∨ ∃ a, ex j = .ref a) {a : zx_V} {v : Value} (hv : zy_v ρ ex as a v) : v.category = cond (zx_isL a) 2 1 := by
  match a, hv with
  | .inl _, hv => rw [show v = _ from hv]; rfl
  | .inr (.inl none), hv => rw [show v = _ from hv]; rfl
  | .inr (.inl (some k)), ⟨q, h1, h2⟩ => rw [h2]; rfl
  | .inr (.inr (.inl _)), hv => rw [show v = _ from hv]; rfl
  | .inr (.inr (.inr (.inl _))), hv => rw [show v = _ from hv]; rfl
  | .inr (.inr (.inr (.inr (.inl j)))), hv => rw [show v = ex j from hv]; rcases hex j with h | ⟨a, h⟩ <;> rw [h] <;> rfl
  | .inr (.inr (.inr (.inr (.inr _)))), ⟨x, hv⟩ => rw [hv]; rfl
theorem zy_dep (hex : ∀ j, ex j = .null ∨ ∃ a, ex j = .ref a) : ∀ {st : List zx_V} {t : List Value}, zy_s ρ ex as st t → (t.map fun v => v.category).sum = zx_dep st
  | [], [], _ => rfl
  | a :: r, v :: t, ⟨h1, h2⟩ => by
    show v.category + (t.map fun v => v.category).sum = cond (zx_isL a) 2 1 + zx_dep r
    rw [zy_cat hex h1, zy_dep hex h2]
theorem zy_s.at : ∀ {st : List zx_V} {t : List Value}, zy_s ρ ex as st t → ∀ (j : Nat) (a : zx_V), st[j]? = some a → ∃ v, t[j]? = some v ∧ zy_v ρ ex as a v
  | a :: r, v :: t, ⟨h1, h2⟩, 0, b, hb => ⟨v, rfl, by cases hb; exact h1⟩
  | a :: r, v :: t, ⟨h1, h2⟩, j + 1, b, hb => zy_s.at h2 j b hb
theorem zy_s.len : ∀ {st : List zx_V} {t : List Value}, zy_s ρ ex as st t → t.length = st.length
  | [], [], _ => rfl
  | _ :: _, _ :: _, ⟨_, h2⟩ => by rw [List.length_cons, List.length_cons, zy_s.len h2]
theorem zy_s.set : ∀ {st : List zx_V} {t : List Value}, zy_s ρ ex as st t → ∀ (j : Nat) {a : zx_V} {v : Value}, zy_v ρ ex as a v → zy_s ρ ex as (st.set j a) (t.set j v)
  | [], [], _, _, _, _, _ => trivial
  | _ :: _, _ :: _, ⟨_, h2⟩, 0, _, _, hv => ⟨hv, h2⟩
  | _ :: _, _ :: _, ⟨h1, h2⟩, j + 1, _, _, hv => ⟨h1, zy_s.set h2 j hv⟩
end ZY
/-! the executor's own words -/
theorem zx_n_eq {α : Type} (n : Nat) (f : Nat → α) : zx_n n f = f n := by cases n <;> rfl
theorem zx_i_eq {α : Type} (x : Int) (f : Int → α) : zx_i x f = f x := by
  cases x with
  | ofNat n => show zx_n n (fun n => f (Int.ofNat n)) = _; rw [zx_n_eq]
  | negSucc n => show zx_n n (fun n => f (Int.negSucc n)) = _; rw [zx_n_eq]
theorem zx_get_ok {k : zx_V → zx_R} {i : Nat} {o : List zx_O} : ∀ {l : zx_L}, zx_get l i k = some o → ∃ v, (i, v) ∈ l ∧ k v = some o
  | [], h => by cases h
  | q :: r, h => by
    have h : cond (Nat.beq q.1 i) (k q.2) (zx_get r i k) = some o := h
    cases hb : Nat.beq q.1 i with
    | true =>
      rw [hb] at h
      have e := Nat.eq_of_beq_eq_true hb
      subst e
      exact ⟨q.2, List.mem_cons_self, h⟩
    | false =>
      rw [hb] at h
      obtain ⟨v, h1, h2⟩ := zx_get_ok (l := r) h
      exact ⟨v, List.mem_cons_of_mem _ h1, h2⟩
theorem zx_fil_eq (bad : Nat × zx_V → Bool) : ∀ (l : zx_L) (k : zx_L → zx_R), zx_fil bad l k = k (l.filter fun q => !bad q)
  | [], k => rfl
  | q :: r, k => by
    show cond (bad q) (zx_fil bad r k) (zx_fil bad r fun t => k (q :: t)) = _
    cases hb : bad q with
    | true => rw [List.filter_cons_of_neg (by simp [hb])]; exact zx_fil_eq bad r k
    | false => rw [List.filter_cons_of_pos (by simp [hb])]; exact zx_fil_eq bad r _
theorem zx_at_ok {α : Type} {k : α → zx_R} {o : List zx_O} : ∀ {l : List α} {i : Nat}, zx_at l k i = some o → ∃ x, l[i]? = some x ∧ k x = some o
  | [], i, h => by cases h
  | x :: t, 0, h => ⟨x, rfl, h⟩
  | x :: t, i + 1, h => by
    obtain ⟨y, h1, h2⟩ := zx_at_ok (l := t) (i := i) h
    exact ⟨y, h1, h2⟩
theorem zx_set_ok {α : Type} {v : α} {o : List zx_O} : ∀ {l : List α} {i : Nat} {k : List α → zx_R}, zx_set v l i k = some o → i < l.length ∧ k (l.set i v) = some o
  | [], i, k, h => by cases h
  | x :: t, 0, k, h => ⟨Nat.succ_pos _, h⟩
  | x :: t, i + 1, k, h => by
    obtain ⟨h1, h2⟩ := zx_set_ok (l := t) (i := i) (k := fun r => k (x :: r)) h
    exact ⟨Nat.succ_lt_succ h1, h2⟩
theorem zx_snoc_eq {α : Type} (v : α) : ∀ (l : List α) (k : List α → zx_R), zx_snoc v l k = k (l ++ [v])
  | [], k => rfl
  | x :: t, k => zx_snoc_eq v t fun r => k (x :: r)
theorem zx_len_eq {α : Type} : ∀ (l : List α), zx_len l = l.length
  | [] => rfl
  | x :: t => by show Nat.succ (zx_len t) = _; rw [zx_len_eq t]; rfl
theorem zx_cond {b : Bool} {x : zx_R} {o : List zx_O} (h : cond b x none = some o) : b = true ∧ x = some o := by
  cases b with
  | true => exact ⟨rfl, h⟩
  | false => cases h
end
section
/-! numbers -/
theorem zy_of32 (x : Int32) : Int32.ofNat x.toUInt32.toNat = x := by
  cases x with
  | ofUInt32 u =>
    cases u with
    | ofBitVec b =>
      show (⟨⟨BitVec.ofNat 32 b.toNat⟩⟩ : Int32) = ⟨⟨b⟩⟩
      rw [BitVec.ofNat_toNat, BitVec.setWidth_eq]
theorem zy_of64 (x : Int64) : Int64.ofNat x.toUInt64.toNat = x := by
  cases x with
  | ofUInt64 u =>
    cases u with
    | ofBitVec b =>
      show (⟨⟨BitVec.ofNat 64 b.toNat⟩⟩ : Int64) = ⟨⟨b⟩⟩
      rw [BitVec.ofNat_toNat, BitVec.setWidth_eq]
theorem zy_i2 (f : Int32 → Int32 → Int32) (a b : Nat) : Int32.ofNat (zx_i2 f a b) = f (Int32.ofNat a) (Int32.ofNat b) := zy_of32 _
theorem zy_l2 (f : Int64 → Int64 → Int64) (a b : Nat) : Int64.ofNat (zx_l2 f a b) = f (Int64.ofNat a) (Int64.ofNat b) := zy_of64 _
theorem zy_bv {a b : BitVec 32} (h : a.toNat = b.toNat) : (⟨⟨a⟩⟩ : Int32) = ⟨⟨b⟩⟩ := by rw [BitVec.eq_of_toNat_eq h]
theorem zy_add (a b : Nat) : Int32.ofNat ((a + b) % 4294967296) = Int32.ofNat a + Int32.ofNat b := by
  show (⟨⟨BitVec.ofNat 32 _⟩⟩ : Int32) = ⟨⟨BitVec.ofNat 32 a + BitVec.ofNat 32 b⟩⟩
  apply zy_bv
  simp [BitVec.toNat_add, BitVec.toNat_ofNat]
theorem zy_sub (a b : Nat) : Int32.ofNat ((a + (4294967296 - b % 4294967296)) % 4294967296) = Int32.ofNat a - Int32.ofNat b := by
  show (⟨⟨BitVec.ofNat 32 _⟩⟩ : Int32) = ⟨⟨BitVec.ofNat 32 a - BitVec.ofNat 32 b⟩⟩
  apply zy_bv
  simp only [BitVec.toNat_sub, BitVec.toNat_ofNat, Nat.reducePow]
  omega
theorem zy_mul (a b : Nat) : Int32.ofNat ((a * b) % 4294967296) = Int32.ofNat a * Int32.ofNat b := by
  show (⟨⟨BitVec.ofNat 32 _⟩⟩ : Int32) = ⟨⟨BitVec.ofNat 32 a * BitVec.ofNat 32 b⟩⟩
  apply zy_bv
  simp [BitVec.toNat_mul, BitVec.toNat_ofNat]
theorem zy_toInt (n : Nat) : (Int32.ofNat n).toInt = zx_s n := by
  rw [Int32.toInt_ofNat']
  unfold zx_s zx_bs
  simp only [Int.bmod, Int.ofNat_eq_natCast, Int32.size]
  split <;> omega
theorem zy_nn {n : Nat} (h : n ≤ 1000000) : (Int32.ofNat n).toNatClampNeg = n ∧ ¬ Int32.ofNat n < 0 := by
  have h1 : (Int32.ofNat n).toInt = (n : Int) := by
    rw [zy_toInt]; unfold zx_s zx_bs; simp only [Int.ofNat_eq_natCast]; omega
  refine ⟨?_, ?_⟩
  · show (Int32.ofNat n).toInt.toNat = n
    rw [h1]; rfl
  · rw [Int32.lt_iff_toInt_lt, h1]
    show ¬ ((n : Int) < 0)
    omega
theorem zy_vin {n N : Nat} (h : n ≤ 1000000) (hn : n < N) : vp_in (Int32.ofNat n) N := by
  obtain ⟨h1, h2⟩ := zy_nn h
  intro q
  rcases q with q | q
  · exact h2 q
  · rw [h1] at q; omega
/-- a comparison, as the rows have it -/
def zy_cp (c : ClassFile.Cond) (x y : Int32) : Prop := match c with
  | .eq => x = y
  | .ne => ¬ x = y
  | .lt => x < y
  | .ge => y ≤ x
  | .gt => y < x
  | .le => x ≤ y
theorem zy_cpI (c : ClassFile.Cond) (x y : Int32) : zy_cp c x y ↔ (match c with
  | .eq => x.toInt = y.toInt
  | .ne => ¬ x.toInt = y.toInt
  | .lt => x.toInt < y.toInt
  | .ge => y.toInt ≤ x.toInt
  | .gt => y.toInt < x.toInt
  | .le => x.toInt ≤ y.toInt) := by
  cases c
  · exact Int32.toInt_inj.symm
  · exact not_congr Int32.toInt_inj.symm
  · exact Int32.lt_iff_toInt_lt
  · exact Int32.le_iff_toInt_le
  · exact Int32.lt_iff_toInt_lt
  · exact Int32.le_iff_toInt_le
theorem zy_cmp (c : ClassFile.Cond) (a b : Nat) : zx_cmp c a b = true ↔ zy_cp c (Int32.ofNat a) (Int32.ofNat b) := by
  rw [zy_cpI, zy_toInt, zy_toInt]
  unfold zx_s
  simp only [Int.ofNat_eq_natCast]
  cases c <;> simp only [zx_cmp, Bool.not_eq_true', Nat.beq_eq, Nat.ble_eq, Nat.beq_eq_true_eq] <;> first | omega | (rw [← Bool.not_eq_true, Nat.beq_eq]; omega)
theorem zy_neg (c : ClassFile.Cond) (x y : Int32) : zy_cp (zx_neg c) x y ↔ ¬ zy_cp c x y := by
  rw [zy_cpI, zy_cpI]
  cases c <;> simp only [zx_neg] <;> omega
theorem zy_mir (c : ClassFile.Cond) (x y : Int32) : zy_cp (zx_mir c) x y ↔ zy_cp c y x := by
  rw [zy_cpI, zy_cpI]
  cases c <;> simp only [zx_mir] <;> omega
theorem zy_ref {c : ClassFile.Cond} {x y : Int32} {lo hi : Int} (h1 : lo ≤ x.toInt) (h2 : x.toInt ≤ hi) (h : zy_cp c x y) : (zx_ref c y.toInt lo hi).1 ≤ x.toInt ∧ x.toInt ≤ (zx_ref c y.toInt lo hi).2 := by
  rw [zy_cpI] at h
  cases c <;> simp only [zx_ref, Bool.cond_decide] at h ⊢ <;> constructor <;> (repeat' split) <;> omega
/-! the frame that the executor walks -/
noncomputable def zx_name (k : Nat) : MethodName := zx_nam.getD k ⟨"", "", ""⟩
noncomputable def zx_bys (k : Nat) : ByteArray := zx_byt.getD k code
noncomputable def zx_info (k : Nat) : Nat × Option FieldType × Nat × Nat × Nat := zx_inf.getD k (0, none, 0, 0, 0)
noncomputable def zx_tb : List Jvm.Cond := lw_tbl.filter goodWord
def zy_c (ρ : Nat → Int32) (a : zx_V) : Value := match a with
  | .inl n => .int (Int32.ofNat n)
  | .inr (.inr (.inr (.inl i))) => .int (ρ i)
  | _ => .null
def zx_isC (x : zx_V) : Bool := match x with
  | .inl _ => true
  | .inr (.inr (.inr (.inl _))) => true
  | _ => false
/-- what was there before the law, and stays -/
def zy_X (xa : List (Nat × Nat × List zx_V)) (ρ : Nat → Int32) (ex : Nat → Value) (A : Nat → Prop) (U : State) (H : Heap) : Prop :=
  (∀ j, ex j = .null ∨ ∃ a, ex j = .ref a) ∧
  (∀ q ∈ xa, ∃ a, ex q.1 = .ref a ∧ (∀ x ∈ q.2.2, zx_isC x = true) ∧ va_T (zx_ft q.2.1) a q.2.2.length (fun i => zy_c ρ (q.2.2.getD i zx_top)) A U H) ∧
  (va_Z "DeckChairs$Hinge" "ADDED" "[I" (ex 0) A U H ∧ va_Z "java/lang/String" "COMPACT_STRINGS" "Z" (.int 1) A U H ∧ va_Z "jdk/internal/util/Preconditions" "SIOOBE_FORMATTER" "Ljava/util/function/BiFunction;" (ex 7) A U H) ∧
  (∀ j, j = 2 ∨ j = 3 → ∃ a, ex j = .ref a ∧ va_O "java/lang/String" a A U H ∧ va_OF "java/lang/String" "value" "[B" (ex (j + 2)) a A U H ∧ va_OF "java/lang/String" "coder" "B" (.int 0) a A U H) ∧
  (∃ a tx, ex 2 = .ref a ∧ vk_R "DeckChairs$Tokens" 25 tx a U) ∧ (∃ a tx, ex 3 = .ref a ∧ vk_R "DeckChairs$Tokens" 27 tx a U) ∧
  va_Nw (.methodLinkNest "DeckChairs$Hinge" 18 ⟨"DeckChairs", "firstGreatest", "([II)I"⟩ "DeckChairs") U
theorem zy_X.call {xa : List (Nat × Nat × List zx_V)} {ρ : Nat → Int32} {ex : Nat → Value} {A : Nat → Prop} {U : State} {H : Heap} (h : zy_X xa ρ ex A U H) (g : JFrame) (mk : MethodId) (a : Array Value) : zy_X xa ρ ex A (U.calling g mk a) H := by
  have hv : U.vm.Alike (U.calling g mk a).vm := Vm.Alike.refl U.vm
  obtain ⟨h1, h2, ⟨h3, h4, h5⟩, h6, ⟨a1, t1, h7, h8⟩, ⟨a2, t2, h9, h10⟩, h11⟩ := h
  refine ⟨h1, fun q hq => ?_, ⟨h3.moved hv, h4.moved hv, h5.moved hv⟩, fun j hj => ?_, ⟨a1, t1, h7, vk_R.same (u := U) rfl h8⟩, ⟨a2, t2, h9, vk_R.same (u := U) rfl h10⟩, va_Nw.same (u := U) rfl rfl h11⟩
  · obtain ⟨b, e1, e0, e2⟩ := h2 q hq; exact ⟨b, e1, e0, e2.moved hv⟩
  · obtain ⟨b, e1, e2, e3, e4⟩ := h6 j hj; exact ⟨b, e1, e2.moved hv, e3.moved hv, e4.moved hv⟩
theorem zy_X.to {xa : List (Nat × Nat × List zx_V)} {ρ : Nat → Int32} {ex : Nat → Value} {A B : Nat → Prop} {s U : State} {H : Heap} (h : zy_X xa ρ ex A s s.heap) (hW : s.WarmedH U.vm) (hk : ∀ q : Nat, q < s.heap.size → ¬ A q → H[q]? = s.heap[q]?) (hAB : ∀ q, B q → A q) : zy_X xa ρ ex B U H := by
  have hv : s.vm.Alike U.vm := hW.alike
  obtain ⟨h1, h2, ⟨h3, h4, h5⟩, h6, ⟨a1, t1, h7, h8⟩, ⟨a2, t2, h9, h10⟩, h11⟩ := h
  refine ⟨h1, fun q hq => ?_, ⟨((h3.kept hk).moved hv).narrow hAB, ((h4.kept hk).moved hv).narrow hAB, ((h5.kept hk).moved hv).narrow hAB⟩, fun j hj => ?_, ⟨a1, t1, h7, h8.warm hW⟩, ⟨a2, t2, h9, h10.warm hW⟩, h11.warmM hW⟩
  · obtain ⟨b, e1, e0, e2⟩ := h2 q hq; exact ⟨b, e1, e0, ((e2.kept hk).moved hv).narrow hAB⟩
  · obtain ⟨b, e1, e2, e3, e4⟩ := h6 j hj; exact ⟨b, e1, ((e2.kept hk).moved hv).narrow hAB, ((e3.kept hk).moved hv).narrow hAB, ((e4.kept hk).moved hv).narrow hAB⟩
def zy_C (xa : List (Nat × Nat × List zx_V)) (ρ : Nat → Int32) (ex : Nat → Value) (p : Program) (R : Room) (s : State) (m : MethodId) (args : Array Value) (meth : Method) (c : Code) (A : Nat → Prop) (fr : zx_Fr) : Prop :=
  p.tables.exec = Jvm.exec ∧ c.code = zx_bys fr.2.1 ∧ c.maxLocals = (zx_info fr.2.1).1 ∧ s.vm.findClass (zx_name fr.2.1).cls = some m.cls ∧ (∀ w ∈ zx_tb, w.before args s = true) ∧ (∀ q, s.heap.size ≤ q → A q) ∧ zy_X xa ρ ex A s s.heap ∧
  fr.1 ≤ R.frames ∧ 64 * fr.1 ≤ R.locals ∧ fr.2.2.2.1 ≤ R.cells ∧ fr.2.2.2.2 ≤ R.slots ∧ ((zx_name fr.2.1).name = "<init>" → meth.name = "<init>")
def zy_D (ρ : Nat → Int32) (ex : Nat → Value) (D : va_G) (s : State) (A : Nat → Prop) (fr : zx_Fr) (g : zx_G) (w : zx_Wd) (cs sl : Nat) (as : List Nat) (tys : List (ClassId × FieldType)) (ws : va_W) (H : Heap) (locs : List Loc) : Prop :=
  va_K D zx_cl tys s ∧ va_P D zx_cl ws H ∧ va_D A ws ∧ va_S A s.heap H locs ∧ zy_w ρ ex tys as w ws ∧ zy_g ρ g ∧ cs ≤ fr.2.2.2.1 ∧ sl ≤ fr.2.2.2.2
def zx_rk (r : Option FieldType) (t : Nat) : Prop := (t = 0 ∧ r = some .int) ∨ (t = 1 ∧ r = some .boolean) ∨ (t = 4 ∧ r = some .char) ∨ (t = 5 ∧ r = some .byte)
def zy_rt (ρ : Nat → Int32) (ex : Nat → Value) (as : List Nat) (k pc : Nat) (rv : Option zx_V) (st : List Value) : Prop := match rv with
  | none => st = [] ∧ decode (zx_bys k) pc = .ok (.return_, 1) ∧ (zx_info k).2.1 = none
  | some a => ∃ v, st = [v] ∧ zy_v ρ ex as a v ∧ ((decode (zx_bys k) pc = .ok (.ireturn, 1) ∧ ∃ t, zx_rk (zx_info k).2.1 t ∧ zx_fit t a = true) ∨ (decode (zx_bys k) pc = .ok (.lreturn, 1) ∧ (zx_info k).2.1 = some .long ∧ zx_isL a = true))
/-- where the outcomes lead -/
def zy_RET (ρ : Nat → Int32) (ex : Nat → Value) (D : va_G) (p : Program) (l : Launch) (e : Env) (R : Room) (s : State) (m : MethodId) (args : Array Value) (below : List Frame) (meth : Method) (c : Code) (A : Nat → Prop) (fr : zx_Fr) (as : List Nat) (outs : List zx_O) (Q : State → Prop) : Prop :=
  ∀ o ∈ outs, ∀ (as' : List Nat) (tys' : List (ClassId × FieldType)) (ws' : va_W) (H' : Heap) (locs' : List Loc), zy_p as as' →
    (∀ rv, o.2.2 = .inl rv → ∀ (cs' sl' pc' : Nat) (ls' : Array Slot) (st' : List Value), zy_D ρ ex D s A fr o.1 o.2.1 cs' sl' as' tys' ws' H' locs' → zy_rt ρ ex as' fr.2.1 pc' rv st' → W p l e R s m args below meth c H' locs' cs' sl' Q (F0 m pc' ls' st')) ∧
    (∀ cs' sl' lo' st', o.2.2 = .inr (cs', sl', lo', st') → ∀ (ls' : Array Slot) (sv' : List Value), zy_D ρ ex D s A fr o.1 o.2.1 cs' sl' as' tys' ws' H' locs' → zy_l ρ ex as' ls' (zx_info fr.2.1).1 lo' → zy_s ρ ex as' st' sv' → W p l e R s m args below meth c H' locs' cs' sl' Q (F0 m fr.2.2.1 ls' sv'))
theorem zy_RET.mono {ρ : Nat → Int32} {ex : Nat → Value} {D : va_G} {p : Program} {l : Launch} {e : Env} {R : Room} {s : State} {m : MethodId} {args : Array Value} {below : List Frame} {meth : Method} {c : Code} {A : Nat → Prop} {fr : zx_Fr} {as bs : List Nat} {outs o2 : List zx_O} {Q : State → Prop}
    (h : zy_RET ρ ex D p l e R s m args below meth c A fr as outs Q) (hp : zy_p as bs) (ho : ∀ o ∈ o2, o ∈ outs) : zy_RET ρ ex D p l e R s m args below meth c A fr bs o2 Q := fun o hm as' tys' ws' H' locs' hq => h o (ho o hm) as' tys' ws' H' locs' (hp.tr hq)
def zy_T (xa : List (Nat × Nat × List zx_V)) (ρ : Nat → Int32) (ex : Nat → Value) (D : va_G) (fr : zx_Fr) (g : zx_G) (w : zx_Wd) (cs sl : Nat) (lo : zx_L) (st : List zx_V) (pc : Nat) (outs : List zx_O) : Prop :=
  ∀ {p : Program} {l : Launch} {e : Env} {R : Room} {s : State} {m : MethodId} {args : Array Value} {below : List Frame} {meth : Method} {c : Code} {A : Nat → Prop} {as : List Nat} {tys : List (ClassId × FieldType)} {ws : va_W} {H : Heap} {locs : List Loc} {ls : Array Slot} {sv : List Value} {Q : State → Prop},
    zy_C xa ρ ex p R s m args meth c A fr → zy_D ρ ex D s A fr g w cs sl as tys ws H locs → zy_l ρ ex as ls (zx_info fr.2.1).1 lo → zy_s ρ ex as st sv → zy_RET ρ ex D p l e R s m args below meth c A fr as outs Q → W p l e R s m args below meth c H locs cs sl Q (F0 m pc ls sv)
def zy_Snd (xa : List (Nat × Nat × List zx_V)) (ρ : Nat → Int32) (ex : Nat → Value) (D : va_G) (rec : zx_Rec) : Prop := ∀ fr g w cs sl lo st pc outs, rec fr g w cs sl lo st pc = some outs → zy_T xa ρ ex D fr g w cs sl lo st pc outs
def zy_Hok (xa : List (Nat × Nat × List zx_V)) (ρ : Nat → Int32) (ex : Nat → Value) (D : va_G) (k pc : Nat) (h : zx_Hd) : Prop := ∀ rec, zy_Snd xa ρ ex D rec → ∀ fr g w cs sl lo st outs, fr.2.1 = k → h rec fr g w cs sl lo st pc = some outs → zy_T xa ρ ex D fr g w cs sl lo st pc outs
end
section
/-! instructions that leave the heap as it is -/
section ZH
variable {xa : List (Nat × Nat × List zx_V)} {ρ : Nat → Int32} {ex : Nat → Value} {D : va_G} {k pc : Nat}
theorem zy_beq (a b : Nat) : (a == b) = Nat.beq a b := by
  cases h : Nat.beq a b with
  | true => exact beq_iff_eq.mpr (Nat.eq_of_beq_eq_true h)
  | false => exact beq_eq_false_iff_ne.mpr (Nat.ne_of_beq_eq_false h)
def zy_fl (ls : Array Slot) : List (Nat × Value) := (List.range ls.size).filterMap (fun i => match (ls[i]? : Option Slot) with
  | some (Slot.val v) => some (i, v)
  | _ => none)
theorem zy_fl_mem {ls : Array Slot} {i : Nat} {v : Value} (h : ls[i]? = some (.val v)) : (i, v) ∈ zy_fl ls := by
  refine List.mem_filterMap.mpr ⟨i, List.mem_range.mpr (Array.getElem?_eq_some_iff.mp h).1, ?_⟩
  rw [h]
theorem zy_fl_has {ls : Array Slot} {nL : Nat} (hs : ls.size = nL) (hw : lv_wf ls) : lv_has ls nL (zy_fl ls) := by
  refine ⟨hs, hw, fun q hq => ?_⟩
  obtain ⟨i, -, hi⟩ := List.mem_filterMap.mp hq
  cases h : ls[i]? with
  | none => rw [h] at hi; cases hi
  | some z =>
    rw [h] at hi
    cases z with
    | val v => cases hi; exact h
    | _ => cases hi
theorem zy_st1 (hex : ∀ j, ex j = .null ∨ ∃ a, ex j = .ref a) {as : List Nat} {ls ls' : Array Slot} {nL i : Nat} {lo : zx_L} {a : zx_V} {x : Value} (hl : zy_l ρ ex as ls nL lo) (hv : zy_v ρ ex as a x)
    (h : lv_has ls' nL ((i, x) :: (zy_fl ls).filter (fun q => !(q.1 == i) && !(q.1 + 1 == i && q.2.category == 2)))) :
    zy_l ρ ex as ls' nL ((i, a) :: lo.filter fun q => !(Nat.beq q.1 i || (Nat.beq (Nat.succ q.1) i && zx_isL q.2))) := by
  refine ⟨h.1, h.2.1, fun q hq => ?_⟩
  rcases List.mem_cons.mp hq with rfl | hq
  · exact ⟨x, h.2.2 (i, x) List.mem_cons_self, hv⟩
  · obtain ⟨hm, hb⟩ := List.mem_filter.mp hq
    obtain ⟨v, h1, h2⟩ := hl.2.2 q hm
    refine ⟨v, h.2.2 (q.1, v) (List.mem_cons_of_mem _ (List.mem_filter.mpr ⟨zy_fl_mem h1, ?_⟩)), h2⟩
    have hc := zy_cat hex h2
    have e1 : (q.1 == i) = Nat.beq q.1 i := zy_beq _ _
    have e2 : (q.1 + 1 == i) = Nat.beq (Nat.succ q.1) i := zy_beq _ _
    show (!(q.1 == i) && !(q.1 + 1 == i && v.category == 2)) = true
    rw [e1, e2, hc]
    revert hb
    cases Nat.beq q.1 i <;> cases Nat.beq (Nat.succ q.1) i <;> cases zx_isL q.2 <;> simp
theorem zy_st2 (hex : ∀ j, ex j = .null ∨ ∃ a, ex j = .ref a) {as : List Nat} {ls ls' : Array Slot} {nL i : Nat} {lo : zx_L} {a : zx_V} {x : Value} (hl : zy_l ρ ex as ls nL lo) (hv : zy_v ρ ex as a x)
    (h : lv_has ls' nL ((i, x) :: (zy_fl ls).filter (fun q => !(q.1 == i) && (!(q.1 == i + 1) && !(q.1 + 1 == i && q.2.category == 2))))) :
    zy_l ρ ex as ls' nL ((i, a) :: lo.filter fun q => !(Nat.beq q.1 i || (Nat.beq q.1 (Nat.succ i) || (Nat.beq (Nat.succ q.1) i && zx_isL q.2)))) := by
  refine ⟨h.1, h.2.1, fun q hq => ?_⟩
  rcases List.mem_cons.mp hq with rfl | hq
  · exact ⟨x, h.2.2 (i, x) List.mem_cons_self, hv⟩
  · obtain ⟨hm, hb⟩ := List.mem_filter.mp hq
    obtain ⟨v, h1, h2⟩ := hl.2.2 q hm
    refine ⟨v, h.2.2 (q.1, v) (List.mem_cons_of_mem _ (List.mem_filter.mpr ⟨zy_fl_mem h1, ?_⟩)), h2⟩
    have hc := zy_cat hex h2
    have e1 : (q.1 == i) = Nat.beq q.1 i := zy_beq _ _
    have e2 : (q.1 + 1 == i) = Nat.beq (Nat.succ q.1) i := zy_beq _ _
    have e3 : (q.1 == i + 1) = Nat.beq q.1 (Nat.succ i) := zy_beq _ _
    show (!(q.1 == i) && (!(q.1 == i + 1) && !(q.1 + 1 == i && v.category == 2))) = true
    rw [e1, e2, e3, hc]
    revert hb
    cases Nat.beq q.1 i <;> cases Nat.beq (Nat.succ q.1) i <;> cases zx_isL q.2 <;> cases Nat.beq q.1 (Nat.succ i) <;> simp
/-- a row that pushes a value that is known beforehand -/
theorem zh_push {a : zx_V} {v : Value} {nx : Nat} (hv : ∀ as, zy_v ρ ex as a v)
    (row : ∀ {p : Program} {l : Launch} {e : Env} {R : Room} {s : State} {m : MethodId} {args : Array Value} {below : List Frame} {meth : Method} {c : Code} {A : Nat → Prop} {H : Heap} {locs : List Loc} {cells slots : Nat} {Q : State → Prop} {ls : Array Slot} {rest : List Value} {fr : zx_Fr}, fr.2.1 = k → zy_C xa ρ ex p R s m args meth c A fr → va_S A s.heap H locs →
      W p l e R s m args below meth c H locs cells slots Q (F0 m nx ls (v :: rest)) → W p l e R s m args below meth c H locs cells slots Q (F0 m pc ls rest)) : zy_Hok xa ρ ex D k pc (zx_push a nx) := by
  intro rec hr fr g w cs sl lo st outs hk h p l e R s m args below meth c A as tys ws H locs ls sv Q C Dy hl hs hret
  refine row hk C Dy.2.2.2.1 ?_
  exact hr _ _ _ _ _ _ _ _ _ h C Dy hl ⟨hv as, hs⟩ hret
theorem zh_load {ok : zx_V → Bool} {i nx : Nat} (row : ∀ {as : List Nat} {a : zx_V} {v : Value}, (∀ j, ex j = .null ∨ ∃ a, ex j = .ref a) → ok a = true → zy_v ρ ex as a v → ∀ {p : Program} {l : Launch} {e : Env} {R : Room} {s : State} {m : MethodId} {args : Array Value} {below : List Frame} {meth : Method} {c : Code} {H : Heap} {locs : List Loc} {cells slots : Nat} {Q : State → Prop} {ls : Array Slot} {rest : List Value}, p.tables.exec = Jvm.exec → c.code = zx_bys k → ls[i]? = some (.val v) →
      W p l e R s m args below meth c H locs cells slots Q (F0 m nx ls (v :: rest)) → W p l e R s m args below meth c H locs cells slots Q (F0 m pc ls rest)) : zy_Hok xa ρ ex D k pc (zx_load ok i nx) := by
  intro rec hr fr g w cs sl lo st outs hk h p l e R s m args below meth c A as tys ws H locs ls sv Q C Dy hl hs hret
  obtain ⟨a, h1, h2⟩ := zx_get_ok h
  obtain ⟨h3, h4⟩ := zx_cond h2
  obtain ⟨v, h5, h6⟩ := hl.2.2 _ h1
  have hb : c.code = zx_bys k := by rw [← hk]; exact C.2.1
  exact row C.2.2.2.2.2.2.1.1 h3 h6 C.1 hb h5 (hr _ _ _ _ _ _ _ _ _ h4 C Dy hl ⟨h6, hs⟩ hret)
theorem zh_sto1 {ok : zx_V → Bool} {i nx : Nat} (row : ∀ {as : List Nat} {a : zx_V} {v : Value}, (∀ j, ex j = .null ∨ ∃ a, ex j = .ref a) → ok a = true → zy_v ρ ex as a v → ∀ {p : Program} {l : Launch} {e : Env} {R : Room} {s : State} {m : MethodId} {args : Array Value} {below : List Frame} {meth : Method} {c : Code} {H : Heap} {locs : List Loc} {cells slots : Nat} {Q : State → Prop} {ls : Array Slot} {rest : List Value}, p.tables.exec = Jvm.exec → c.code = zx_bys k → lv_has ls (zx_info k).1 (zy_fl ls) →
      (∀ ls' : Array Slot, lv_has ls' (zx_info k).1 ((i, v) :: (zy_fl ls).filter (fun q => !(q.1 == i) && !(q.1 + 1 == i && q.2.category == 2))) → W p l e R s m args below meth c H locs cells slots Q (F0 m nx ls' rest)) → W p l e R s m args below meth c H locs cells slots Q (F0 m pc ls (v :: rest))) : zy_Hok xa ρ ex D k pc (zx_sto1 ok i nx) := by
  intro rec hr fr g w cs sl lo st outs hk h p l e R s m args below meth c A as tys ws H locs ls sv Q C Dy hl hs hret
  match st, sv, hs, h with
  | a :: r, v :: t, ⟨h1, h2⟩, h =>
    obtain ⟨h3, h4⟩ := zx_cond h
    rw [zx_fil_eq] at h4
    have hb : c.code = zx_bys k := by rw [← hk]; exact C.2.1
    have hex := C.2.2.2.2.2.2.1.1
    subst hk
    exact row hex h3 h1 C.1 hb (zy_fl_has hl.1 hl.2.1) (fun ls' h' => hr _ _ _ _ _ _ _ _ _ h4 C Dy (zy_st1 hex hl h1 h') h2 hret)
theorem zh_sto2 {i nx : Nat} (row : ∀ {v : Int64} {p : Program} {l : Launch} {e : Env} {R : Room} {s : State} {m : MethodId} {args : Array Value} {below : List Frame} {meth : Method} {c : Code} {H : Heap} {locs : List Loc} {cells slots : Nat} {Q : State → Prop} {ls : Array Slot} {rest : List Value}, p.tables.exec = Jvm.exec → c.code = zx_bys k → lv_has ls (zx_info k).1 (zy_fl ls) →
      (∀ ls' : Array Slot, lv_has ls' (zx_info k).1 ((i, .long v) :: (zy_fl ls).filter (fun q => !(q.1 == i) && (!(q.1 == i + 1) && !(q.1 + 1 == i && q.2.category == 2)))) → W p l e R s m args below meth c H locs cells slots Q (F0 m nx ls' rest)) → W p l e R s m args below meth c H locs cells slots Q (F0 m pc ls (.long v :: rest))) : zy_Hok xa ρ ex D k pc (zx_sto2 i nx) := by
  intro rec hr fr g w cs sl lo st outs hk h p l e R s m args below meth c A as tys ws H locs ls sv Q C Dy hl hs hret
  match st, sv, hs, h with
  | a :: r, v :: t, ⟨h1, h2⟩, h =>
    obtain ⟨h3, h4⟩ := zx_cond h
    rw [zx_fil_eq] at h4
    have hb : c.code = zx_bys k := by rw [← hk]; exact C.2.1
    have hex := C.2.2.2.2.2.2.1.1
    subst hk
    obtain ⟨x, rfl⟩ := zy_isL h3 h1
    exact row C.1 hb (zy_fl_has hl.1 hl.2.1) (fun ls' h' => hr _ _ _ _ _ _ _ _ _ h4 C Dy (zy_st2 hex hl h1 h') h2 hret)
/-- what a sum of two values is -/
theorem zx_add_ok {as : List Nat} {a b : zx_V} {va vb : Value} {kk : zx_V → zx_R} {o : List zx_O} (ha : zy_v ρ ex as a va) (hb : zy_v ρ ex as b vb) (h : zx_add a b kk = some o) : ∃ (x y : Int32) (v : zx_V), va = .int x ∧ vb = .int y ∧ zy_v ρ ex as v (.int (x + y)) ∧ kk v = some o := by
  have hz : ∀ {n : Nat}, Nat.beq n 0 = true → Int32.ofNat n = 0 := fun {n} hn => by rw [Nat.eq_of_beq_eq_true hn]; rfl
  have key : ∀ {u v : zx_V} {vu vv : Value}, zy_v ρ ex as u vu → zy_v ρ ex as v vv → cond (zx_isI u && zx_isI v) (kk zx_top) none = some o → ∃ (x y : Int32) (r : zx_V), vu = .int x ∧ vv = .int y ∧ zy_v ρ ex as r (.int (x + y)) ∧ kk r = some o := by
    intro u v vu vv hu hv h
    obtain ⟨h1, h2⟩ := zx_cond h
    obtain ⟨x, rfl⟩ := zy_isI (Bool.and_eq_true_iff.mp h1).1 hu
    obtain ⟨y, rfl⟩ := zy_isI (Bool.and_eq_true_iff.mp h1).2 hv
    exact ⟨x, y, zx_top, rfl, rfl, ⟨_, rfl⟩, h2⟩
  have left : ∀ {n : Nat} {v : zx_V} {vv : Value}, zy_v ρ ex as v vv → cond (zx_isI v) (cond (Nat.beq n 0) (kk v) (kk zx_top)) none = some o → ∃ (x y : Int32) (r : zx_V), Value.int (Int32.ofNat n) = .int x ∧ vv = .int y ∧ zy_v ρ ex as r (.int (x + y)) ∧ kk r = some o := by
    intro n v vv hv h
    obtain ⟨h1, h2⟩ := zx_cond h
    obtain ⟨y, rfl⟩ := zy_isI h1 hv
    cases hn : Nat.beq n 0 with
    | true =>
      rw [hn] at h2
      exact ⟨_, y, v, rfl, rfl, by rw [hz hn, Int32.zero_add]; exact hv, h2⟩
    | false =>
      rw [hn] at h2
      exact ⟨_, y, zx_top, rfl, rfl, ⟨_, rfl⟩, h2⟩
  have right : ∀ {n : Nat} {v : zx_V} {vv : Value}, zy_v ρ ex as v vv → cond (zx_isI v) (cond (Nat.beq n 0) (kk v) (kk zx_top)) none = some o → ∃ (x y : Int32) (r : zx_V), vv = .int x ∧ Value.int (Int32.ofNat n) = .int y ∧ zy_v ρ ex as r (.int (x + y)) ∧ kk r = some o := by
    intro n v vv hv h
    obtain ⟨x, y, r, h1, h2, h3, h4⟩ := left hv h
    exact ⟨y, x, r, h2, h1, by rw [Int32.add_comm]; exact h3, h4⟩
  match a, b, ha, hb, h with
  | .inl x, .inl y, ha, hb, h =>
    have h : zx_n ((x + y) % 4294967296) (fun n => kk (.inl n)) = some o := h
    rw [zx_n_eq] at h
    exact ⟨_, _, _, ha, hb, by rw [← zy_add]; exact rfl, h⟩
  | .inl x, .inr (.inl v), ha, hb, h => cases h
  | .inl x, .inr (.inr (.inl v)), ha, hb, h => cases h
  | .inl x, .inr (.inr (.inr (.inl v))), ha, hb, h => rw [show va = _ from ha]; exact left hb h
  | .inl x, .inr (.inr (.inr (.inr (.inl v)))), ha, hb, h => cases h
  | .inl x, .inr (.inr (.inr (.inr (.inr v)))), ha, hb, h => rw [show va = _ from ha]; exact left hb h
  | .inr (.inl u), .inl y, ha, hb, h => cases h
  | .inr (.inr (.inl u)), .inl y, ha, hb, h => cases h
  | .inr (.inr (.inr (.inl u))), .inl y, ha, hb, h => rw [show vb = _ from hb]; exact right ha h
  | .inr (.inr (.inr (.inr (.inl u)))), .inl y, ha, hb, h => cases h
  | .inr (.inr (.inr (.inr (.inr u)))), .inl y, ha, hb, h => rw [show vb = _ from hb]; exact right ha h
  | .inr u, .inr v, ha, hb, h => exact key ha hb h
theorem zx_bop_ok {f : Nat → Nat → Nat} {op : Int32 → Int32 → Int32} (hf : ∀ a b, Int32.ofNat (f a b) = op (Int32.ofNat a) (Int32.ofNat b)) {as : List Nat} {a b : zx_V} {va vb : Value} {kk : zx_V → zx_R} {o : List zx_O} (ha : zy_v ρ ex as a va) (hb : zy_v ρ ex as b vb) (h : zx_bop f a b kk = some o) : ∃ (x y : Int32) (v : zx_V), va = .int x ∧ vb = .int y ∧ zy_v ρ ex as v (.int (op x y)) ∧ kk v = some o := by
  match a, b, ha, hb, h with
  | .inl x, .inl y, ha, hb, h =>
    have h : zx_n (f x y) (fun n => kk (.inl n)) = some o := h
    rw [zx_n_eq] at h
    exact ⟨_, _, _, ha, hb, by rw [← hf]; exact rfl, h⟩
  | .inl x, .inr v, ha, hb, h =>
    obtain ⟨h1, h2⟩ := zx_cond (show cond (zx_isI (.inr v)) (kk zx_top) none = some o from h)
    obtain ⟨y, rfl⟩ := zy_isI h1 hb
    exact ⟨_, y, zx_top, ha, rfl, ⟨_, rfl⟩, h2⟩
  | .inr u, b, ha, hb, h =>
    obtain ⟨h1, h2⟩ := zx_cond (show cond (zx_isI (.inr u) && zx_isI b) (kk zx_top) none = some o from h)
    obtain ⟨x, rfl⟩ := zy_isI (Bool.and_eq_true_iff.mp h1).1 ha
    obtain ⟨y, rfl⟩ := zy_isI (Bool.and_eq_true_iff.mp h1).2 hb
    exact ⟨x, y, zx_top, rfl, rfl, ⟨_, rfl⟩, h2⟩
theorem zx_div_ok {f : Nat → Nat → Nat} {op : Int32 → Int32 → Int32} (hf : ∀ a b, Int32.ofNat (f a b) = op (Int32.ofNat a) (Int32.ofNat b)) {as : List Nat} {a b : zx_V} {va vb : Value} {kk : zx_V → zx_R} {o : List zx_O} (ha : zy_v ρ ex as a va) (hb : zy_v ρ ex as b vb) (h : zx_div f a b kk = some o) : ∃ (x y : Int32) (v : zx_V), va = .int x ∧ vb = .int y ∧ ¬ y = 0 ∧ zy_v ρ ex as v (.int (op x y)) ∧ kk v = some o := by
  match a, b, ha, hb, h with
  | .inl x, .inl y, ha, hb, h =>
    have h : cond (Nat.beq (y % 4294967296) 0) none (zx_n (f x y) (fun n => kk (.inl n))) = some o := h
    cases hn : Nat.beq (y % 4294967296) 0 with
    | true => rw [hn] at h; cases h
    | false =>
      rw [hn] at h
      have h : zx_n (f x y) (fun n => kk (.inl n)) = some o := h
      rw [zx_n_eq] at h
      refine ⟨_, _, _, ha, hb, ?_, by rw [← hf]; exact rfl, h⟩
      intro q
      have q2 : (Int32.ofNat y).toInt = 0 := by rw [q]; rfl
      rw [zy_toInt] at q2
      unfold zx_s zx_bs at q2
      simp only [Int.ofNat_eq_natCast] at q2
      have : y % 4294967296 = 0 := by omega
      rw [this] at hn
      cases hn
  | .inl x, .inr v, ha, hb, h => cases h
  | .inr u, b, ha, hb, h => cases h
/-- a row over two ints -/
theorem zh_bin {f : zx_V → zx_V → (zx_V → zx_R) → zx_R} {op : Int32 → Int32 → Int32} {S : Int32 → Prop} {nx : Nat}
    (hf : ∀ {as : List Nat} {a b : zx_V} {va vb : Value} {kk : zx_V → zx_R} {o : List zx_O}, zy_v ρ ex as a va → zy_v ρ ex as b vb → f a b kk = some o → ∃ (x y : Int32) (v : zx_V), va = .int x ∧ vb = .int y ∧ S y ∧ zy_v ρ ex as v (.int (op x y)) ∧ kk v = some o)
    (row : ∀ {x y : Int32} {p : Program} {l : Launch} {e : Env} {R : Room} {s : State} {m : MethodId} {args : Array Value} {below : List Frame} {meth : Method} {c : Code} {H : Heap} {locs : List Loc} {cells slots : Nat} {Q : State → Prop} {ls : Array Slot} {rest : List Value}, p.tables.exec = Jvm.exec → c.code = zx_bys k → S y →
      W p l e R s m args below meth c H locs cells slots Q (F0 m nx ls (.int (op x y) :: rest)) → W p l e R s m args below meth c H locs cells slots Q (F0 m pc ls (.int y :: .int x :: rest))) : zy_Hok xa ρ ex D k pc (zx_bin f nx) := by
  intro rec hr fr g w cs sl lo st outs hk h p l e R s m args below meth c A as tys ws H locs ls sv Q C Dy hl hs hret
  match st, sv, hs, h with
  | b :: a :: r, vb :: va :: t, ⟨h1, h2, h3⟩, h =>
    obtain ⟨x, y, v, rfl, rfl, hS, h4, h5⟩ := hf h2 h1 h
    have hb : c.code = zx_bys k := by rw [← hk]; exact C.2.1
    exact row C.1 hb hS (hr _ _ _ _ _ _ _ _ _ h5 C Dy hl ⟨h4, h3⟩ hret)
theorem zh_lop {f : Nat → Nat → Nat} {op : Int64 → Int64 → Int64} {nx : Nat} (hf : ∀ a b, Int64.ofNat (f a b) = op (Int64.ofNat a) (Int64.ofNat b))
    (row : ∀ {x y : Int64} {p : Program} {l : Launch} {e : Env} {R : Room} {s : State} {m : MethodId} {args : Array Value} {below : List Frame} {meth : Method} {c : Code} {H : Heap} {locs : List Loc} {cells slots : Nat} {Q : State → Prop} {ls : Array Slot} {rest : List Value}, p.tables.exec = Jvm.exec → c.code = zx_bys k →
      W p l e R s m args below meth c H locs cells slots Q (F0 m nx ls (.long (op x y) :: rest)) → W p l e R s m args below meth c H locs cells slots Q (F0 m pc ls (.long y :: .long x :: rest))) : zy_Hok xa ρ ex D k pc (zx_bin (zx_lop f) nx) := by
  intro rec hr fr g w cs sl lo st outs hk h p l e R s m args below meth c A as tys ws H locs ls sv Q C Dy hl hs hret
  match st, sv, hs, h with
  | .inr (.inr (.inl y)) :: .inr (.inr (.inl x)) :: r, vb :: va :: t, ⟨h1, h2, h3⟩, h =>
    have h : zx_n (f x y) (fun n => rec fr g w cs sl lo (.inr (.inr (.inl n)) :: r) nx) = some outs := h
    rw [zx_n_eq] at h
    have hb : c.code = zx_bys k := by rw [← hk]; exact C.2.1
    rw [show vb = _ from h1, show va = _ from h2]
    exact row C.1 hb (hr _ _ _ _ _ _ _ _ _ h C Dy hl ⟨by rw [← hf]; exact rfl, h3⟩ hret)
  | .inl _ :: .inr (.inr (.inl x)) :: r, _, _, h => cases h
  | .inr (.inl _) :: .inr (.inr (.inl x)) :: r, _, _, h => cases h
  | .inr (.inr (.inr _)) :: .inr (.inr (.inl x)) :: r, _, _, h => cases h
  | _ :: .inl _ :: r, _, _, h => cases h
  | _ :: .inr (.inl _) :: r, _, _, h => cases h
  | _ :: .inr (.inr (.inr _)) :: r, _, _, h => cases h
theorem zh_cvI {f : Nat → Nat} {op : Int32 → Int32} {nx : Nat} (hf : ∀ a, Int32.ofNat (f a) = op (Int32.ofNat a))
    (row : ∀ {x : Int32} {p : Program} {l : Launch} {e : Env} {R : Room} {s : State} {m : MethodId} {args : Array Value} {below : List Frame} {meth : Method} {c : Code} {H : Heap} {locs : List Loc} {cells slots : Nat} {Q : State → Prop} {ls : Array Slot} {rest : List Value}, p.tables.exec = Jvm.exec → c.code = zx_bys k →
      W p l e R s m args below meth c H locs cells slots Q (F0 m nx ls (.int (op x) :: rest)) → W p l e R s m args below meth c H locs cells slots Q (F0 m pc ls (.int x :: rest))) : zy_Hok xa ρ ex D k pc (zx_una (zx_cvI f) nx) := by
  intro rec hr fr g w cs sl lo st outs hk h p l e R s m args below meth c A as tys ws H locs ls sv Q C Dy hl hs hret
  have hb : c.code = zx_bys k := by rw [← hk]; exact C.2.1
  match st, sv, hs, h with
  | .inl x :: r, v :: t, ⟨h1, h2⟩, h =>
    have h : zx_n (f x) (fun n => rec fr g w cs sl lo (.inl n :: r) nx) = some outs := h
    rw [zx_n_eq] at h
    rw [show v = _ from h1]
    exact row C.1 hb (hr _ _ _ _ _ _ _ _ _ h C Dy hl ⟨by rw [← hf]; exact rfl, h2⟩ hret)
  | .inr u :: r, v :: t, ⟨h1, h2⟩, h =>
    obtain ⟨h3, h4⟩ := zx_cond (show cond (zx_isI (.inr u)) (rec fr g w cs sl lo (zx_top :: r) nx) none = some outs from h)
    obtain ⟨x, rfl⟩ := zy_isI h3 h1
    exact row C.1 hb (hr _ _ _ _ _ _ _ _ _ h4 C Dy hl ⟨⟨_, rfl⟩, h2⟩ hret)
theorem zh_cvL {f : Nat → Nat} {op : Int32 → Int64} {nx : Nat} (hf : ∀ a, Int64.ofNat (f a) = op (Int32.ofNat a))
    (row : ∀ {x : Int32} {p : Program} {l : Launch} {e : Env} {R : Room} {s : State} {m : MethodId} {args : Array Value} {below : List Frame} {meth : Method} {c : Code} {H : Heap} {locs : List Loc} {cells slots : Nat} {Q : State → Prop} {ls : Array Slot} {rest : List Value}, p.tables.exec = Jvm.exec → c.code = zx_bys k →
      W p l e R s m args below meth c H locs cells slots Q (F0 m nx ls (.long (op x) :: rest)) → W p l e R s m args below meth c H locs cells slots Q (F0 m pc ls (.int x :: rest))) : zy_Hok xa ρ ex D k pc (zx_una (zx_cvL f) nx) := by
  intro rec hr fr g w cs sl lo st outs hk h p l e R s m args below meth c A as tys ws H locs ls sv Q C Dy hl hs hret
  have hb : c.code = zx_bys k := by rw [← hk]; exact C.2.1
  match st, sv, hs, h with
  | .inl x :: r, v :: t, ⟨h1, h2⟩, h =>
    have h : zx_n (f x) (fun n => rec fr g w cs sl lo (.inr (.inr (.inl n)) :: r) nx) = some outs := h
    rw [zx_n_eq] at h
    rw [show v = _ from h1]
    exact row C.1 hb (hr _ _ _ _ _ _ _ _ _ h C Dy hl ⟨by rw [← hf]; exact rfl, h2⟩ hret)
  | .inr u :: r, v :: t, ⟨h1, h2⟩, h => cases h
theorem zh_inc {i cc nx : Nat} (row : ∀ {x : Int32} {p : Program} {l : Launch} {e : Env} {R : Room} {s : State} {m : MethodId} {args : Array Value} {below : List Frame} {meth : Method} {c : Code} {H : Heap} {locs : List Loc} {cells slots : Nat} {Q : State → Prop} {ls : Array Slot} {rest : List Value}, p.tables.exec = Jvm.exec → c.code = zx_bys k → lv_has ls (zx_info k).1 (zy_fl ls) → ls[i]? = some (.val (.int x)) →
      (∀ ls' : Array Slot, lv_has ls' (zx_info k).1 ((i, .int (x + Int32.ofNat cc)) :: (zy_fl ls).filter (fun q => !(q.1 == i) && !(q.1 + 1 == i && q.2.category == 2))) → W p l e R s m args below meth c H locs cells slots Q (F0 m nx ls' rest)) → W p l e R s m args below meth c H locs cells slots Q (F0 m pc ls rest)) : zy_Hok xa ρ ex D k pc (zx_inc i cc nx) := by
  intro rec hr fr g w cs sl lo st outs hk h p l e R s m args below meth c A as tys ws H locs ls sv Q C Dy hl hs hret
  obtain ⟨a, h1, h2⟩ := zx_get_ok h
  obtain ⟨v, h5, h6⟩ := hl.2.2 _ h1
  obtain ⟨x, y, u, rfl, h7, h8, h9⟩ := zx_add_ok h6 (show zy_v ρ ex as (.inl cc) (.int (Int32.ofNat cc)) from rfl) h2
  cases h7
  rw [zx_fil_eq] at h9
  have hb : c.code = zx_bys k := by rw [← hk]; exact C.2.1
  subst hk
  exact row C.1 hb (zy_fl_has hl.1 hl.2.1) h5 (fun ls' h' => hr _ _ _ _ _ _ _ _ _ h9 C Dy (zy_st1 C.2.2.2.2.2.2.1.1 hl h8 h') hs hret)
theorem zh_goto {t : Nat} (row : ∀ {p : Program} {l : Launch} {e : Env} {R : Room} {s : State} {m : MethodId} {args : Array Value} {below : List Frame} {meth : Method} {c : Code} {H : Heap} {locs : List Loc} {cells slots : Nat} {Q : State → Prop} {ls : Array Slot} {rest : List Value}, p.tables.exec = Jvm.exec → c.code = zx_bys k →
      W p l e R s m args below meth c H locs cells slots Q (F0 m t ls rest) → W p l e R s m args below meth c H locs cells slots Q (F0 m pc ls rest)) : zy_Hok xa ρ ex D k pc (zx_goto t) := by
  intro rec hr fr g w cs sl lo st outs hk h p l e R s m args below meth c A as tys ws H locs ls sv Q C Dy hl hs hret
  exact row C.1 (by rw [← hk]; exact C.2.1) (hr _ _ _ _ _ _ _ _ _ h C Dy hl hs hret)
theorem zh_bad : zy_Hok xa ρ ex D k pc zx_bad := by
  intro rec hr fr g w cs sl lo st outs hk h
  cases h
end ZH
end
section
/-! branches, switches, the stack, fields, arrays -/
section ZB
variable {xa : List (Nat × Nat × List zx_V)} {ρ : Nat → Int32} {ex : Nat → Value} {D : va_G} {k pc : Nat}
theorem zx_nm_ok {as : List Nat} {g : zx_G} {a : zx_V} {v : Value} {kk : zx_V → zx_R} {o : List zx_O} (hg : zy_g ρ g) (hv : zy_v ρ ex as a v) (h : zx_nm g a kk = some o) : ∃ b, zy_v ρ ex as b v ∧ kk b = some o := by
  match a, hv, h with
  | .inl _, hv, h => exact ⟨_, hv, h⟩
  | .inr (.inl _), hv, h => exact ⟨_, hv, h⟩
  | .inr (.inr (.inl _)), hv, h => exact ⟨_, hv, h⟩
  | .inr (.inr (.inr (.inl i))), hv, h =>
    obtain ⟨q, h1, h2⟩ := zx_at_ok h
    have hq := hg i q h1
    by_cases he : q.1 = q.2
    · rw [decide_eq_true he] at h2
      have h2 : zx_n (zx_u q.1) (fun n => kk (.inl n)) = some o := h2
      rw [zx_n_eq] at h2
      refine ⟨_, ?_, h2⟩
      show v = .int (Int32.ofNat (zx_u q.1))
      rw [show v = .int (ρ i) from hv]
      congr 1
      apply Int32.toInt_inj.mp
      rw [zy_toInt]
      have b1 := Int32.le_toInt (ρ i)
      have b2 := Int32.toInt_lt (ρ i)
      unfold zx_s zx_bs zx_u
      simp only [Int.ofNat_eq_natCast]
      omega
    · rw [decide_eq_false he] at h2
      exact ⟨_, hv, h2⟩
  | .inr (.inr (.inr (.inr (.inl _)))), hv, h => exact ⟨_, hv, h⟩
  | .inr (.inr (.inr (.inr (.inr _)))), hv, h => exact ⟨_, hv, h⟩
theorem zx_two_ok {p q : Bool} {x y : zx_R} {o : List zx_O} (h : zx_two p q x y = some o) : (p = true → ∃ l, x = some l ∧ ∀ z ∈ l, z ∈ o) ∧ (q = true → ∃ l, y = some l ∧ ∀ z ∈ l, z ∈ o) := by
  cases p <;> cases q
  · exact ⟨fun h => (by cases h), fun h => (by cases h)⟩
  · exact ⟨fun h => (by cases h), fun _ => ⟨o, h, fun _ z => z⟩⟩
  · exact ⟨fun _ => ⟨o, h, fun _ z => z⟩, fun h => (by cases h)⟩
  · cases x with
    | none => cases h
    | some l =>
      cases y with
      | none => cases h
      | some l2 =>
        cases h
        exact ⟨fun _ => ⟨l, rfl, fun z hz => List.mem_append_left _ hz⟩, fun _ => ⟨l2, rfl, fun z hz => List.mem_append_right _ hz⟩⟩
theorem zy_gset {g : zx_G} {i : Nat} {q : Int × Int} (hg : zy_g ρ g) (h1 : q.1 ≤ (ρ i).toInt) (h2 : (ρ i).toInt ≤ q.2) : zy_g ρ (g.set i q) := by
  intro j r hr
  rw [List.getElem?_set] at hr
  split at hr
  · rename_i e
    subst e
    split at hr
    · cases hr; exact ⟨h1, h2⟩
    · cases hr
  · exact hg j r hr
theorem zx_fork_ok {c : ClassFile.Cond} {i : Nat} {y : Int32} {g : zx_G} {kt kf : zx_G → zx_R} {o : List zx_O} (hg : zy_g ρ g) (h : zx_fork c i y.toInt g kt kf = some o) :
    (zy_cp c (ρ i) y → ∃ g' o', zy_g ρ g' ∧ kt g' = some o' ∧ ∀ z ∈ o', z ∈ o) ∧ (¬ zy_cp c (ρ i) y → ∃ g' o', zy_g ρ g' ∧ kf g' = some o' ∧ ∀ z ∈ o', z ∈ o) := by
  obtain ⟨q, h1, h2⟩ := zx_at_ok h
  simp only [zx_i_eq] at h2
  obtain ⟨h3, h4⟩ := zx_two_ok h2
  obtain ⟨b1, b2⟩ := hg i q h1
  refine ⟨fun hc => ?_, fun hc => ?_⟩
  · have hr := zy_ref b1 b2 hc
    obtain ⟨l, e1, e2⟩ := h3 (decide_eq_true (Int.le_trans hr.1 hr.2))
    obtain ⟨-, e3⟩ := zx_set_ok e1
    exact ⟨_, l, zy_gset hg hr.1 hr.2, e3, e2⟩
  · have hr := zy_ref b1 b2 ((zy_neg c (ρ i) y).mpr hc)
    obtain ⟨l, e1, e2⟩ := h4 (decide_eq_true (Int.le_trans hr.1 hr.2))
    obtain ⟨-, e3⟩ := zx_set_ok e1
    exact ⟨_, l, zy_gset hg hr.1 hr.2, e3, e2⟩
set_option maxRecDepth 100000 in
theorem zx_br_ok {as : List Nat} {c : ClassFile.Cond} {a b : zx_V} {va vb : Value} {g : zx_G} {kt kf : zx_G → zx_R} {o : List zx_O} (hg : zy_g ρ g) (ha : zy_v ρ ex as a va) (hb : zy_v ρ ex as b vb) (h : zx_br c a b g kt kf = some o) :
    ∃ x y, va = .int x ∧ vb = .int y ∧ (zy_cp c x y → ∃ g' o', zy_g ρ g' ∧ kt g' = some o' ∧ ∀ z ∈ o', z ∈ o) ∧ (¬ zy_cp c x y → ∃ g' o', zy_g ρ g' ∧ kf g' = some o' ∧ ∀ z ∈ o', z ∈ o) := by
  have dec : ∀ {x y : Int32} {t : Bool}, (t = true ↔ zy_cp c x y) → cond t (kt g) (kf g) = some o → (zy_cp c x y → ∃ g' o', zy_g ρ g' ∧ kt g' = some o' ∧ ∀ z ∈ o', z ∈ o) ∧ (¬ zy_cp c x y → ∃ g' o', zy_g ρ g' ∧ kf g' = some o' ∧ ∀ z ∈ o', z ∈ o) := by
    intro x y t ht h
    cases t with
    | true => exact ⟨fun _ => ⟨g, o, hg, h, fun _ z => z⟩, fun n => absurd (ht.mp rfl) n⟩
    | false => exact ⟨fun n => absurd (ht.mpr n) (by simp), fun _ => ⟨g, o, hg, h, fun _ z => z⟩⟩
  obtain ⟨a', ha', h⟩ := zx_nm_ok hg ha h
  obtain ⟨b', hb', h⟩ := zx_nm_ok hg hb h
  have f1 : ∀ (x i : Nat), va = .int (Int32.ofNat x) → vb = .int (ρ i) → zx_i (zx_s x) (fun t => zx_fork (zx_mir c) i t g kt kf) = some o → ∃ x y, va = .int x ∧ vb = .int y ∧ (zy_cp c x y → ∃ g' o', zy_g ρ g' ∧ kt g' = some o' ∧ ∀ z ∈ o', z ∈ o) ∧ (¬ zy_cp c x y → ∃ g' o', zy_g ρ g' ∧ kf g' = some o' ∧ ∀ z ∈ o', z ∈ o) := by
    intro x i ha hb h
    rw [zx_i_eq, ← zy_toInt] at h
    obtain ⟨h1, h2⟩ := zx_fork_ok hg h
    exact ⟨_, _, ha, hb, fun q => h1 ((zy_mir c _ _).mpr q), fun q => h2 (fun z => q ((zy_mir c _ _).mp z))⟩
  have f2 : ∀ (y i : Nat), va = .int (ρ i) → vb = .int (Int32.ofNat y) → zx_i (zx_s y) (fun t => zx_fork c i t g kt kf) = some o → ∃ x y, va = .int x ∧ vb = .int y ∧ (zy_cp c x y → ∃ g' o', zy_g ρ g' ∧ kt g' = some o' ∧ ∀ z ∈ o', z ∈ o) ∧ (¬ zy_cp c x y → ∃ g' o', zy_g ρ g' ∧ kf g' = some o' ∧ ∀ z ∈ o', z ∈ o) := by
    intro y i ha hb h
    rw [zx_i_eq, ← zy_toInt] at h
    obtain ⟨h1, h2⟩ := zx_fork_ok hg h
    exact ⟨_, _, ha, hb, h1, h2⟩
  rcases a' with x | _ | _ | i | _ | _
  · rcases b' with y | _ | _ | i | _ | _
    · exact ⟨_, _, ha', hb', dec (zy_cmp c x y) h⟩
    · cases h
    · cases h
    · exact f1 x i ha' hb' h
    · cases h
    · cases h
  · cases h
  · cases h
  · rcases b' with y | _ | _ | j | _ | _
    · exact f2 y i ha' hb' h
    · cases h
    · cases h
    · obtain ⟨h1, h2⟩ := zx_cond h
      have e := Nat.eq_of_beq_eq_true h1
      subst e
      refine ⟨_, _, ha', hb', dec ?_ h2⟩
      rw [zy_cmp, zy_cpI, zy_cpI]
      cases c <;> simp
    · cases h
    · cases h
  · cases h
  · cases h
theorem zy_D.g {s : State} {A : Nat → Prop} {fr : zx_Fr} {g g' : zx_G} {w : zx_Wd} {cs sl : Nat} {as : List Nat} {tys : List (ClassId × FieldType)} {ws : va_W} {H : Heap} {locs : List Loc} (h : zy_D ρ ex D s A fr g w cs sl as tys ws H locs) (hg : zy_g ρ g') : zy_D ρ ex D s A fr g' w cs sl as tys ws H locs :=
  ⟨h.1, h.2.1, h.2.2.1, h.2.2.2.1, h.2.2.2.2.1, hg, h.2.2.2.2.2.2⟩
theorem zh_if2 {c : ClassFile.Cond} {tgt nx : Nat} (row : ∀ {x y : Int32} {p : Program} {l : Launch} {e : Env} {R : Room} {s : State} {m : MethodId} {args : Array Value} {below : List Frame} {meth : Method} {cd : Code} {H : Heap} {locs : List Loc} {cells slots : Nat} {Q : State → Prop} {ls : Array Slot} {rest : List Value}, p.tables.exec = Jvm.exec → cd.code = zx_bys k →
      (zy_cp c x y → W p l e R s m args below meth cd H locs cells slots Q (F0 m tgt ls rest)) → (¬ zy_cp c x y → W p l e R s m args below meth cd H locs cells slots Q (F0 m nx ls rest)) → W p l e R s m args below meth cd H locs cells slots Q (F0 m pc ls (.int y :: .int x :: rest))) : zy_Hok xa ρ ex D k pc (zx_if2 c tgt nx) := by
  intro rec hr fr g w cs sl lo st outs hk h p l e R s m args below meth cd A as tys ws H locs ls sv Q C Dy hl hs hret
  have hb : cd.code = zx_bys k := by rw [← hk]; exact C.2.1
  match st, sv, hs, h with
  | b :: a :: r, vb :: va :: t, ⟨h1, h2, h3⟩, h =>
    have h : zx_br c a b g (fun g => rec fr g w cs sl lo r tgt) (fun g => rec fr g w cs sl lo r nx) = some outs := h
    obtain ⟨x, y, rfl, rfl, h4, h5⟩ := zx_br_ok Dy.2.2.2.2.2.1 h2 h1 h
    refine row C.1 hb (fun q => ?_) (fun q => ?_)
    · obtain ⟨g', o', e1, e2, e3⟩ := h4 q
      exact hr _ _ _ _ _ _ _ _ _ e2 C (Dy.g e1) hl h3 (hret.mono zy_p.rf e3)
    · obtain ⟨g', o', e1, e2, e3⟩ := h5 q
      exact hr _ _ _ _ _ _ _ _ _ e2 C (Dy.g e1) hl h3 (hret.mono zy_p.rf e3)
theorem zh_if1 {c : ClassFile.Cond} {tgt nx : Nat} (row : ∀ {x : Int32} {p : Program} {l : Launch} {e : Env} {R : Room} {s : State} {m : MethodId} {args : Array Value} {below : List Frame} {meth : Method} {cd : Code} {H : Heap} {locs : List Loc} {cells slots : Nat} {Q : State → Prop} {ls : Array Slot} {rest : List Value}, p.tables.exec = Jvm.exec → cd.code = zx_bys k →
      (zy_cp c x 0 → W p l e R s m args below meth cd H locs cells slots Q (F0 m tgt ls rest)) → (¬ zy_cp c x 0 → W p l e R s m args below meth cd H locs cells slots Q (F0 m nx ls rest)) → W p l e R s m args below meth cd H locs cells slots Q (F0 m pc ls (.int x :: rest))) : zy_Hok xa ρ ex D k pc (zx_if1 c tgt nx) := by
  intro rec hr fr g w cs sl lo st outs hk h p l e R s m args below meth cd A as tys ws H locs ls sv Q C Dy hl hs hret
  have hb : cd.code = zx_bys k := by rw [← hk]; exact C.2.1
  match st, sv, hs, h with
  | a :: r, va :: t, ⟨h2, h3⟩, h =>
    have h : zx_br c a (.inl 0) g (fun g => rec fr g w cs sl lo r tgt) (fun g => rec fr g w cs sl lo r nx) = some outs := h
    obtain ⟨x, y, rfl, hy, h4, h5⟩ := zx_br_ok Dy.2.2.2.2.2.1 h2 (show zy_v ρ ex as (.inl 0) (.int 0) from rfl) h
    cases hy
    refine row C.1 hb (fun q => ?_) (fun q => ?_)
    · obtain ⟨g', o', e1, e2, e3⟩ := h4 q
      exact hr _ _ _ _ _ _ _ _ _ e2 C (Dy.g e1) hl h3 (hret.mono zy_p.rf e3)
    · obtain ⟨g', o', e1, e2, e3⟩ := h5 q
      exact hr _ _ _ _ _ _ _ _ _ e2 C (Dy.g e1) hl h3 (hret.mono zy_p.rf e3)
theorem zh_stk {f : List zx_V → Option (List zx_V)} {nx : Nat} (row : ∀ {as : List Nat} {st s2 : List zx_V} {sv : List Value}, (∀ j, ex j = .null ∨ ∃ a, ex j = .ref a) → f st = some s2 → zy_s ρ ex as st sv → ∀ {p : Program} {l : Launch} {e : Env} {R : Room} {s : State} {m : MethodId} {args : Array Value} {below : List Frame} {meth : Method} {cd : Code} {H : Heap} {locs : List Loc} {cells slots : Nat} {Q : State → Prop} {ls : Array Slot}, p.tables.exec = Jvm.exec → cd.code = zx_bys k →
      (∀ sv2, zy_s ρ ex as s2 sv2 → W p l e R s m args below meth cd H locs cells slots Q (F0 m nx ls sv2)) → W p l e R s m args below meth cd H locs cells slots Q (F0 m pc ls sv)) : zy_Hok xa ρ ex D k pc (zx_stk f nx) := by
  intro rec hr fr g w cs sl lo st outs hk h p l e R s m args below meth cd A as tys ws H locs ls sv Q C Dy hl hs hret
  have hb : cd.code = zx_bys k := by rw [← hk]; exact C.2.1
  cases hf : f st with
  | none =>
    have h : (match f st with | some s2 => rec fr g w cs sl lo s2 nx | none => none) = some outs := h
    rw [hf] at h; cases h
  | some s2 =>
    have h : (match f st with | some s2 => rec fr g w cs sl lo s2 nx | none => none) = some outs := h
    rw [hf] at h
    exact row C.2.2.2.2.2.2.1.1 hf hs C.1 hb (fun sv2 h2 => hr _ _ _ _ _ _ _ _ _ h C Dy hl h2 hret)
/-- a cell of the picture is a cell of the world -/
theorem zy_obj {tys : List (ClassId × FieldType)} {as : List Nat} {w : zx_Wd} {ws : va_W} {a ci : Nat} {fs : List zx_V} {v : Value} (hw : zy_w ρ ex tys as w ws) (h : w[a]? = some (.inr (ci, fs))) (hv : zy_v ρ ex as (.inr (.inl (some a))) v) : ∃ (q : Nat) (gs : List Value), v = .ref q ∧ as[a]? = some q ∧ ws[a]? = some (q, .inr (ci, gs)) ∧ zy_s ρ ex as fs gs := by
  obtain ⟨q, h1, h2⟩ := hv
  obtain ⟨e, b, h3, h4, h5⟩ := hw.2.2 a _ h
  rw [h1] at h3
  cases h3
  match e, h5, h4 with
  | .inr (cj, gs), ⟨e1, e2⟩, h4 => cases e1; exact ⟨q, gs, h2, h1, h4, e2⟩
theorem zy_arr {tys : List (ClassId × FieldType)} {as : List Nat} {w : zx_Wd} {ws : va_W} {a t : Nat} {vs : List zx_V} {v : Value} (hw : zy_w ρ ex tys as w ws) (h : w[a]? = some (.inl (t, vs))) (hv : zy_v ρ ex as (.inr (.inl (some a))) v) : ∃ (q : Nat) (e : va_E), v = .ref q ∧ as[a]? = some q ∧ ws[a]? = some (q, e) ∧ zy_e ρ ex tys as (.inl (t, vs)) e := by
  obtain ⟨q, h1, h2⟩ := hv
  obtain ⟨e, b, h3, h4, h5⟩ := hw.2.2 a _ h
  rw [h1] at h3
  cases h3
  exact ⟨q, e, h2, h1, h4, h5⟩
theorem zy_wset {tys : List (ClassId × FieldType)} {as : List Nat} {w : zx_Wd} {ws : va_W} {a q : Nat} {e : zx_E} {f : va_E} (hw : zy_w ρ ex tys as w ws) (ha : as[a]? = some q) (he : zy_e ρ ex tys as e f) : zy_w ρ ex tys as (w.set a e) (ws.set a (q, f)) := by
  obtain ⟨h1, h2, h3⟩ := hw
  refine ⟨by rw [List.length_set]; exact h1, by rw [List.length_set, List.length_set]; exact h2, fun k e' hk => ?_⟩
  rw [List.getElem?_set] at hk
  split at hk
  · rename_i e1
    subst e1
    split at hk
    · rename_i hlt
      cases hk
      refine ⟨f, q, ha, ?_, he⟩
      rw [List.getElem?_set_self (by omega)]
    · cases hk
  · rename_i hne
    obtain ⟨x, b, e1, e2, e3⟩ := h3 k e' hk
    refine ⟨x, b, e1, ?_, e3⟩
    rw [List.getElem?_set_ne hne]
    exact e2
theorem zy_wpush {tys tys2 : List (ClassId × FieldType)} {as : List Nat} {w : zx_Wd} {ws : va_W} {q : Nat} {e : zx_E} {f : va_E} (hw : zy_w ρ ex tys as w ws) (ht : ∀ (i : Nat) (q : ClassId × FieldType), tys[i]? = some q → ∃ j : Nat, tys2[j]? = some q) (he : zy_e ρ ex tys2 (as ++ [q]) e f) : zy_w ρ ex tys2 (as ++ [q]) (w ++ [e]) (ws ++ [(q, f)]) := by
  obtain ⟨h1, h2, h3⟩ := hw
  refine ⟨by simp [h1], by simp [h2], fun k e' hk => ?_⟩
  by_cases hlt : k < w.length
  · rw [List.getElem?_append_left hlt] at hk
    obtain ⟨x, b, e1, e2, e3⟩ := h3 k e' hk
    exact ⟨x, b, zy_p.ap q _ _ e1, by rw [List.getElem?_append_left (by omega)]; exact e2, e3.mono (zy_p.ap q) ht⟩
  · have hk2 : k = w.length := by
      have := (List.getElem?_eq_some_iff.mp hk).1
      simp at this
      omega
    subst hk2
    rw [List.getElem?_append_right (Nat.le_refl _)] at hk
    simp at hk
    subst hk
    refine ⟨f, q, ?_, ?_, he⟩
    · rw [List.getElem?_append_right (by omega), h1]; simp
    · rw [List.getElem?_append_right (by omega), h2]; simp
/-- what the tables say of a class -/
def zk_cl (ci : Nat) : Prop := ∀ (C : String) (T : u_T) (N : Nat), zx_cl[ci]? = some (C, T, N) → (∀ w ∈ u_ws C T N, w ∈ zx_tb) ∧ (∀ a, a < N → ∀ b, b < N → a ≠ b → (T a).2.1 ≠ (T b).2.1) ∧ ∃ ty : Nat → FieldType, (∀ j, j < N → parseFieldDescriptor (T j).2.2.1 = some (ty j)) ∧ ∃ gs : List Value, (∀ j, j < N → defaultValue (ty j) = vp_V gs j) ∧ ∀ ρ ex as, zy_s ρ ex as (zx_dfl.getD ci []) gs
theorem zh_gf {ci j nx idx : Nat} {C : String} {T : u_T} {N : Nat} (hc : zx_cl[ci]? = some (C, T, N)) (hK0 : zk_cl ci) (hj : j < N) (hlink : Jvm.Cond.fieldLink (zx_name k).cls idx (T j).1 (T j).2.1 (T j).2.2.1 ∈ zx_tb) (hd : decode (zx_bys k) pc = .ok (.getfield idx, 3)) (hn : nx = pc + 3) : zy_Hok xa ρ ex D k pc (zx_gf ci j nx) := by
  intro rec hr fr g w cs sl lo st outs hk h p l e R s m args below meth cd A as tys ws H locs ls sv Q Cx Dy hl hs hret
  subst hk; subst hn
  match st, sv, hs, h with
  | .inr (.inl (some a)) :: r, v :: t, ⟨h1, h2⟩, h =>
    obtain ⟨x, h3, h4⟩ := zx_at_ok h
    match x, h3, h4 with
    | .inr (cj, fs), h3, h4 =>
      obtain ⟨h5, h6⟩ := zx_cond h4
      have e := Nat.eq_of_beq_eq_true h5
      have e : cj = ci := e
      subst e
      obtain ⟨u, h7, h8⟩ := zx_at_ok h6
      obtain ⟨q, gs, rfl, -, h9, h10⟩ := zy_obj Dy.2.2.2.2.1 h3 h1
      obtain ⟨v', h11, h12⟩ := h10.at j u h7
      exact va_get (own := (zx_name fr.2.1).cls) Cx.1 Cx.2.1 Cx.2.2.2.2.1 (hK0 C T N hc).1 Cx.2.2.2.1 Dy.1 Dy.2.1 a h9 hc j hj (Cx.2.2.2.2.1 _ hlink) (fun _ z => z) h11 hd (hr _ _ _ _ _ _ _ _ _ h8 Cx Dy hl ⟨h12, h2⟩ hret)
  | .inl _ :: r, _, _, h => cases h
  | .inr (.inl none) :: r, _, _, h => cases h
  | .inr (.inr _) :: r, _, _, h => cases h
def zx_tk (ty : FieldType) (t : Nat) : Prop := (t = 0 ∧ ty = .int) ∨ (t = 1 ∧ ty = .boolean) ∨ (t = 2 ∧ ((∃ n, ty = .object n) ∨ ∃ n, ty = .array n)) ∨ (t = 3 ∧ ty = .long) ∨ (t = 4 ∧ ty = .char) ∨ (t = 5 ∧ ty = .byte)
theorem zy_small : ∀ n, n < 128 → narrow .char (.int (Int32.ofNat n)) = .int (Int32.ofNat n) ∧ narrow .byte (.int (Int32.ofNat n)) = .int (Int32.ofNat n) ∧ fits .char (.int (Int32.ofNat n)) = true ∧ fits .byte (.int (Int32.ofNat n)) = true := by decide +kernel
theorem zy_fit (hex : ∀ j, ex j = .null ∨ ∃ a, ex j = .ref a) {as : List Nat} {ty : FieldType} {t : Nat} {a : zx_V} {v : Value} (ht : zx_tk ty t) (hf : zx_fit t a = true) (hv : zy_v ρ ex as a v) : narrow ty v = v ∧ fits ty v = true := by
  rcases ht with ⟨rfl, rfl⟩ | ⟨rfl, rfl⟩ | ⟨rfl, ht⟩ | ⟨rfl, rfl⟩ | ⟨rfl, rfl⟩ | ⟨rfl, rfl⟩
  · obtain ⟨x, rfl⟩ := zy_isI hf hv
    exact ⟨rfl, rfl⟩
  · match a, hf, hv with
    | .inl n, hf, hv =>
      have hn : n ≤ 1 := Nat.le_of_ble_eq_true hf
      rw [show v = _ from hv]
      rcases Nat.le_one_iff_eq_zero_or_eq_one.mp hn with rfl | rfl <;> exact ⟨by decide, by decide⟩
  · rcases zy_isA hex hf hv with rfl | ⟨q, rfl⟩ <;> rcases ht with ⟨n, rfl⟩ | ⟨n, rfl⟩ <;> exact ⟨rfl, rfl⟩
  · obtain ⟨x, rfl⟩ := zy_isL hf hv
    exact ⟨rfl, rfl⟩
  · match a, hf, hv with
    | .inl n, hf, hv =>
      have hn : n ≤ 127 := Nat.le_of_ble_eq_true hf
      rw [show v = _ from hv]
      have z := zy_small n (by omega)
      exact ⟨z.1, z.2.2.1⟩
  · match a, hf, hv with
    | .inl n, hf, hv =>
      have hn : n ≤ 127 := Nat.le_of_ble_eq_true hf
      rw [show v = _ from hv]
      have z := zy_small n (by omega)
      exact ⟨z.2.1, z.2.2.2⟩
theorem zh_pf {ci j t nx idx : Nat} {C : String} {T : u_T} {N : Nat} {ty : FieldType} (hc : zx_cl[ci]? = some (C, T, N)) (hK0 : zk_cl ci) (hj : j < N) (hlink : Jvm.Cond.fieldLink (zx_name k).cls idx (T j).1 (T j).2.1 (T j).2.2.1 ∈ zx_tb) (hty : parseFieldDescriptor (T j).2.2.1 = some ty) (htk : zx_tk ty t) (hfin : (T j).2.2.2 = false ∨ ((T j).2.2.2 = true ∧ (zx_name k).name = "<init>" ∧ (T j).1 = (zx_name k).cls)) (hd : decode (zx_bys k) pc = .ok (.putfield idx, 3)) (hn : nx = pc + 3) : zy_Hok xa ρ ex D k pc (zx_pf ci j t nx) := by
  intro rec hr fr g w cs sl lo st outs hk h p l e R s m args below meth cd A as tys ws H locs ls sv Q Cx Dy hl hs hret
  subst hk; subst hn
  match st, sv, hs, h with
  | x :: .inr (.inl (some a)) :: r, vx :: v :: tt, ⟨h0, h1, h2⟩, h =>
    obtain ⟨hfit, h⟩ := zx_cond h
    obtain ⟨z, h3, h4⟩ := zx_at_ok h
    match z, h3, h4 with
    | .inr (cj, fs), h3, h4 =>
      obtain ⟨h5, h6⟩ := zx_cond h4
      have e : cj = ci := Nat.eq_of_beq_eq_true h5
      subst e
      obtain ⟨h7, h8⟩ := zx_set_ok h6
      obtain ⟨-, h8⟩ := zx_set_ok h8
      obtain ⟨q, gs, rfl, haq, h9, h10⟩ := zy_obj Dy.2.2.2.2.1 h3 h1
      obtain ⟨k1, k2, ty0, k3, -⟩ := hK0 C T N hc
      obtain ⟨hnr, hfi⟩ := zy_fit Cx.2.2.2.2.2.2.1.1 htk hfit h0
      have hlen : j < gs.length := by rw [h10.len]; exact h7
      have fin : ∀ (H1 : Heap) (locs1 : List Loc), va_P D zx_cl (ws.set a (q, .inr (cj, gs.set j vx))) H1 → va_D A (ws.set a (q, .inr (cj, gs.set j vx))) → va_S A s.heap H1 locs1 → W p l e R s m args below meth cd H1 locs1 cs sl Q (F0 m (pc + 3) ls tt) := fun H1 locs1 p1 d1 s1 =>
        hr _ _ _ _ _ _ _ _ _ h8 Cx ⟨Dy.1, p1, d1, s1, zy_wset Dy.2.2.2.2.1 haq ⟨rfl, h10.set j h0⟩, Dy.2.2.2.2.2⟩ hl h2 hret
      rcases hfin with hf | ⟨hf, hi, ho⟩
      · exact va_put (own := (zx_name fr.2.1).cls) (ty := ty) Cx.1 Cx.2.1 Cx.2.2.2.2.1 k1 ty0 k3 k2 Cx.2.2.2.1 Dy.1 Dy.2.1 Dy.2.2.1 Dy.2.2.2.1 a h9 hc j hj (Cx.2.2.2.2.1 _ hlink) (fun _ z => z) hf hty hnr hfi hlen hd fin
      · exact va_putF (own := (zx_name fr.2.1).cls) (ty := ty) Cx.1 Cx.2.1 Cx.2.2.2.2.1 k1 ty0 k3 k2 Cx.2.2.2.1 Dy.1 Dy.2.1 Dy.2.2.1 Dy.2.2.2.1 a h9 hc j hj (Cx.2.2.2.2.1 _ hlink) (fun _ z => z) hf (Cx.2.2.2.2.2.2.2.2.2.2.2 hi) ho hty hnr hfi hlen hd fin
  | x :: .inl _ :: r, _, _, h => cases h
  | x :: .inr (.inl none) :: r, _, _, h => cases h
  | x :: .inr (.inr _) :: r, _, _, h => cases h
theorem zh_new {ci N nx idx : Nat} {C : String} {T : u_T} (hc : zx_cl[ci]? = some (C, T, N)) (hK0 : zk_cl ci) (h1 : Jvm.Cond.classLink (zx_name k).cls idx C ∈ zx_tb) (h2 : Jvm.Cond.instantiable C N ∈ zx_tb) (h3 : Jvm.Cond.initialized C ∈ zx_tb) (hd : decode (zx_bys k) pc = .ok (.new idx, 3)) (hn : nx = pc + 3) : zy_Hok xa ρ ex D k pc (zx_new ci N (zx_dfl.getD ci []) nx) := by
  intro rec hr fr g w cs sl lo st outs hk h p l e R s m args below meth cd A as tys ws H locs ls sv Q Cx Dy hl hs hret
  subst hk; subst hn
  have h : zx_n (cs + 1) _ = some outs := h
  rw [zx_n_eq, zx_n_eq] at h
  obtain ⟨hb, h⟩ := zx_cond h
  rw [zx_n_eq, zx_snoc_eq, zx_len_eq] at h
  obtain ⟨hb1, hb2⟩ := Bool.and_eq_true_iff.mp hb
  have hb1 := Nat.le_of_ble_eq_true hb1
  have hb2 := Nat.le_of_ble_eq_true hb2
  obtain ⟨k1, k2, ty0, k3, gs, k4, k5⟩ := hK0 C T N hc
  have hts := Cx.2.2.2.2.1
  have hw := Dy.2.2.2.2.1
  refine va_new (own := (zx_name fr.2.1).cls) (D := D) (cl := zx_cl) (ws := ws) (tys := tys) (A := A) (H0 := s.heap) (fs := gs) Cx.1 Cx.2.1 hts k1 ty0 k3 Cx.2.2.2.1 (hts _ h1) (hts _ h2) (hts _ h3) Dy.1 Dy.2.1 Dy.2.2.1 Dy.2.2.2.1 Cx.2.2.2.2.2.1 hc k4 (Nat.le_trans hb1 Cx.2.2.2.2.2.2.2.2.2.1) (Nat.le_trans hb2 Cx.2.2.2.2.2.2.2.2.2.2.1) hd (fun q H1 p1 d1 s1 => ?_)
  refine hr _ _ _ _ _ _ _ _ _ h Cx (as := as ++ [q]) ⟨Dy.1, p1, d1, s1, zy_wpush hw (fun i q hq => ⟨i, hq⟩) ⟨rfl, k5 _ _ _⟩, Dy.2.2.2.2.2.1, hb1, hb2⟩ (hl.mono (zy_p.ap q)) ⟨⟨q, ?_, rfl⟩, hs.mono (zy_p.ap q)⟩ (hret.mono (zy_p.ap q) (fun _ z => z))
  rw [List.getElem?_append_right (by rw [hw.1]; exact Nat.le_refl _), hw.1]
  simp
end ZB
end
section
/-! arrays, switches, what was there before, the ends of methods -/
section ZA
variable {xa : List (Nat × Nat × List zx_V)} {ρ : Nat → Int32} {ex : Nat → Value} {D : va_G} {k pc : Nat}
theorem zh_xgf {fs : List (Nat × zx_V)} {nx idx : Nat} {nme dsc : String} (hfs : ∀ (a : Nat) (x : zx_V), (a, x) ∈ fs → ∀ {A : Nat → Prop} {s : State}, zy_X xa ρ ex A s s.heap → ∃ q v, ex a = .ref q ∧ va_OF "java/lang/String" nme dsc v q A s s.heap ∧ ∀ as, zy_v ρ ex as x v) (hlink : Jvm.Cond.fieldLink (zx_name k).cls idx "java/lang/String" nme dsc ∈ zx_tb) (hd : decode (zx_bys k) pc = .ok (.getfield idx, 3)) (hn : nx = pc + 3) : zy_Hok xa ρ ex D k pc (zx_xgf fs nx) := by
  intro rec hr fr g w cs sl lo st outs hk h p l e R s m args below meth cd A as tys ws H locs ls sv Q Cx Dy hl hs hret
  subst hk; subst hn
  match st, sv, hs, h with
  | .inr (.inr (.inr (.inr (.inl a)))) :: r, v :: t, ⟨h1, h2⟩, h =>
    have h : zx_get fs a (fun x => rec fr g w cs sl lo (x :: r) (pc + 3)) = some outs := h
    obtain ⟨x, h3, h4⟩ := zx_get_ok h
    obtain ⟨q, u, e1, e2, e3⟩ := hfs a x h3 Cx.2.2.2.2.2.2.1
    rw [show v = ex a from h1, e1]
    exact vk_getf (own := (zx_name fr.2.1).cls) Cx.1 Cx.2.1 e2 Dy.2.2.2.1 Cx.2.2.2.1 (Cx.2.2.2.2.1 _ hlink) (fun _ z => z) hd (hr _ _ _ _ _ _ _ _ _ h4 Cx Dy hl ⟨e3 as, h2⟩ hret)
  | .inl _ :: r, _, _, h => cases h
  | .inr (.inl _) :: r, _, _, h => cases h
  | .inr (.inr (.inl _)) :: r, _, _, h => cases h
  | .inr (.inr (.inr (.inl _))) :: r, _, _, h => cases h
  | .inr (.inr (.inr (.inr (.inr _)))) :: r, _, _, h => cases h
theorem zh_newai {t nx : Nat} {at0 : ArrayType} (ht : t < 3) (hty : newarray.typeOf at0 = zx_ft t) (harr : Jvm.Cond.arrayClass (zx_ft t) ∈ zx_tb) (hd : decode (zx_bys k) pc = .ok (.newarray at0, 2)) (hn : nx = pc + 2) : zy_Hok xa ρ ex D k pc (zx_newa t (.inl 0) nx) := by
  intro rec hr fr g w cs sl lo st outs hk h p l e R s m args below meth cd A as tys ws H locs ls sv Q Cx Dy hl hs hret
  subst hk; subst hn
  match st, sv, hs, h with
  | .inl n :: r, v :: tt, ⟨h1, h2⟩, h =>
    have h : zx_n (cs + 1) (fun cs2 => zx_n (sl + n) fun sl2 => cond (Nat.ble cs2 fr.2.2.2.1 && Nat.ble sl2 fr.2.2.2.2 && Nat.ble n 1000000) (zx_n (zx_len w) fun a => zx_snoc (.inl (t, List.replicate n (.inl 0))) w fun w2 => rec fr g w2 cs2 sl2 lo (.inr (.inl (some a)) :: r) (pc + 2)) none) = some outs := h
    rw [zx_n_eq, zx_n_eq] at h
    obtain ⟨hb, h⟩ := zx_cond h
    rw [zx_n_eq, zx_snoc_eq, zx_len_eq] at h
    obtain ⟨hb, hb3⟩ := Bool.and_eq_true_iff.mp hb
    obtain ⟨hb1, hb2⟩ := Bool.and_eq_true_iff.mp hb
    have hb1 := Nat.le_of_ble_eq_true hb1
    have hb2 := Nat.le_of_ble_eq_true hb2
    have hb3 := Nat.le_of_ble_eq_true hb3
    have hts := Cx.2.2.2.2.1
    have hw := Dy.2.2.2.2.1
    obtain ⟨n1, n2⟩ := zy_nn hb3
    rw [show v = _ from h1]
    have hcb : componentBytes (zx_ft t) ≤ 4 := by
      match t, ht with
      | 0, _ => exact Nat.le_refl _
      | 1, _ => exact Nat.le_of_ble_eq_true rfl
      | 2, _ => exact Nat.le_of_ble_eq_true rfl
    have hdv : ∀ cA : ClassId, vp_cell cA (n, .inl (fun _ => (0 : Int32))) = arrV cA n (fun _ => defaultValue (zx_ft t)) := by
      match t, ht with
      | 0, _ => exact fun _ => rfl
      | 1, _ => exact fun _ => rfl
      | 2, _ => exact fun _ => rfl
    refine va_newa (D := D) (cl := zx_cl) (ws := ws) (tys := tys) (A := A) (H0 := s.heap) (ty := zx_ft t) (N' := n) (a0 := (n, .inl (fun _ => (0 : Int32)))) Cx.1 Cx.2.1 (by rw [hty]; exact hts _ harr) hty Dy.1 Dy.2.1 Dy.2.2.1 Dy.2.2.2.1 Cx.2.2.2.2.2.1 hdv n2 n1 (Nat.le_trans (Nat.mul_le_mul hb3 hcb) (Nat.le_of_ble_eq_true rfl)) (Nat.le_trans hb1 Cx.2.2.2.2.2.2.2.2.2.1) (Nat.le_trans hb2 Cx.2.2.2.2.2.2.2.2.2.2.1) hd (fun q cA H1 k1 p1 d1 s1 => ?_)
    have hnew : ∀ (j : Nat) (a : zx_V), (List.replicate n (.inl 0 : zx_V))[j]? = some a → zy_v ρ ex (as ++ [q]) a (.int 0) := by
      intro j a ha
      rw [List.getElem?_replicate] at ha
      split at ha
      · cases ha; exact rfl
      · cases ha
    have hmono : ∀ (i : Nat) (q : ClassId × FieldType), tys[i]? = some q → ∃ j : Nat, (tys ++ [(cA, zx_ft t)])[j]? = some q := fun i q hq => ⟨i, by rw [List.getElem?_append_left (List.getElem?_eq_some_iff.mp hq).1]; exact hq⟩
    refine hr _ _ _ _ _ _ _ _ _ h Cx (as := as ++ [q]) ⟨k1, p1, d1, s1, zy_wpush hw hmono ⟨ht, ⟨tys.length, by simp⟩, by rw [List.length_replicate], hnew⟩, Dy.2.2.2.2.2.1, hb1, hb2⟩ (hl.mono (zy_p.ap q)) ⟨⟨q, ?_, rfl⟩, h2.mono (zy_p.ap q)⟩ (hret.mono (zy_p.ap q) (fun _ z => z))
    rw [List.getElem?_append_right (by rw [hw.1]; exact Nat.le_refl _), hw.1]
    simp
  | .inr _ :: r, _, _, h => cases h
theorem zh_newal {nx : Nat} (harr : Jvm.Cond.arrayClass .long ∈ zx_tb) (hd : decode (zx_bys k) pc = .ok (.newarray .long, 2)) (hn : nx = pc + 2) : zy_Hok xa ρ ex D k pc (zx_newa 3 (.inr (.inr (.inl 0))) nx) := by
  intro rec hr fr g w cs sl lo st outs hk h p l e R s m args below meth cd A as tys ws H locs ls sv Q Cx Dy hl hs hret
  subst hk; subst hn
  match st, sv, hs, h with
  | .inl n :: r, v :: tt, ⟨h1, h2⟩, h =>
    have h : zx_n (cs + 1) (fun cs2 => zx_n (sl + n) fun sl2 => cond (Nat.ble cs2 fr.2.2.2.1 && Nat.ble sl2 fr.2.2.2.2 && Nat.ble n 1000000) (zx_n (zx_len w) fun a => zx_snoc (.inl (3, List.replicate n (.inr (.inr (.inl 0))))) w fun w2 => rec fr g w2 cs2 sl2 lo (.inr (.inl (some a)) :: r) (pc + 2)) none) = some outs := h
    rw [zx_n_eq, zx_n_eq] at h
    obtain ⟨hb, h⟩ := zx_cond h
    rw [zx_n_eq, zx_snoc_eq, zx_len_eq] at h
    obtain ⟨hb, hb3⟩ := Bool.and_eq_true_iff.mp hb
    obtain ⟨hb1, hb2⟩ := Bool.and_eq_true_iff.mp hb
    have hb1 := Nat.le_of_ble_eq_true hb1
    have hb2 := Nat.le_of_ble_eq_true hb2
    have hb3 := Nat.le_of_ble_eq_true hb3
    have hts := Cx.2.2.2.2.1
    have hw := Dy.2.2.2.2.1
    obtain ⟨n1, n2⟩ := zy_nn hb3
    rw [show v = _ from h1]
    refine va_newa (D := D) (cl := zx_cl) (ws := ws) (tys := tys) (A := A) (H0 := s.heap) (atype := .long) (ty := .long) (N' := n) (a0 := (n, .inr (.inl (fun _ => (0 : Int64))))) Cx.1 Cx.2.1 (hts _ harr) rfl Dy.1 Dy.2.1 Dy.2.2.1 Dy.2.2.2.1 Cx.2.2.2.2.2.1 (fun _ => rfl) n2 n1 (Nat.le_trans (Nat.mul_le_mul hb3 (Nat.le_refl 8)) (Nat.le_of_ble_eq_true rfl)) (Nat.le_trans hb1 Cx.2.2.2.2.2.2.2.2.2.1) (Nat.le_trans hb2 Cx.2.2.2.2.2.2.2.2.2.2.1) hd (fun q cA H1 k1 p1 d1 s1 => ?_)
    have hnew : ∀ (j : Nat) (a : zx_V), (List.replicate n (.inr (.inr (.inl 0)) : zx_V))[j]? = some a → zy_v ρ ex (as ++ [q]) a (.long 0) := by
      intro j a ha
      rw [List.getElem?_replicate] at ha
      split at ha
      · cases ha; exact rfl
      · cases ha
    have hmono : ∀ (i : Nat) (q : ClassId × FieldType), tys[i]? = some q → ∃ j : Nat, (tys ++ [(cA, FieldType.long)])[j]? = some q := fun i q hq => ⟨i, by rw [List.getElem?_append_left (List.getElem?_eq_some_iff.mp hq).1]; exact hq⟩
    refine hr _ _ _ _ _ _ _ _ _ h Cx (as := as ++ [q]) ⟨k1, p1, d1, s1, zy_wpush hw hmono ⟨rfl, ⟨tys.length, by simp⟩, by rw [List.length_replicate], hnew⟩, Dy.2.2.2.2.2.1, hb1, hb2⟩ (hl.mono (zy_p.ap q)) ⟨⟨q, ?_, rfl⟩, h2.mono (zy_p.ap q)⟩ (hret.mono (zy_p.ap q) (fun _ z => z))
    rw [List.getElem?_append_right (by rw [hw.1]; exact Nat.le_refl _), hw.1]
    simp
  | .inr _ :: r, _, _, h => cases h
theorem zx_xa_ok {f : Nat × Nat × List zx_V → zx_R} {a : Nat} {o : List zx_O} : ∀ {l : List (Nat × Nat × List zx_V)}, List.rec (motive := fun _ => zx_R) none (fun q _ ih => cond (Nat.beq q.1 a) (f q) ih) l = some o → ∃ q ∈ l, q.1 = a ∧ f q = some o
  | [], h => by cases h
  | q :: r, h => by
    have h : cond (Nat.beq q.1 a) (f q) (List.rec (motive := fun _ => zx_R) none (fun q _ ih => cond (Nat.beq q.1 a) (f q) ih) r) = some o := h
    cases hb : Nat.beq q.1 a with
    | true =>
      rw [hb] at h
      exact ⟨q, List.mem_cons_self, Nat.eq_of_beq_eq_true hb, h⟩
    | false =>
      rw [hb] at h
      obtain ⟨z, h1, h2, h3⟩ := zx_xa_ok (l := r) h
      exact ⟨z, List.mem_cons_of_mem _ h1, h2, h3⟩
theorem zh_alen {nx : Nat} (hd : decode (zx_bys k) pc = .ok (.arraylength, 1)) (hn : nx = pc + 1) : zy_Hok xa ρ ex D k pc (zx_alen xa nx) := by
  intro rec hr fr g w cs sl lo st outs hk h p l e R s m args below meth cd A as tys ws H locs ls sv Q Cx Dy hl hs hret
  subst hk; subst hn
  match st, sv, hs, h with
  | .inr (.inl (some a)) :: r, v :: t, ⟨h1, h2⟩, h =>
    obtain ⟨x, h3, h4⟩ := zx_at_ok h
    match x, h3, h4 with
    | .inl (ty, vs), h3, h4 =>
      have h4 : zx_n (zx_len vs) (fun n => rec fr g w cs sl lo (.inl n :: r) (pc + 1)) = some outs := h4
      rw [zx_n_eq, zx_len_eq] at h4
      obtain ⟨q, e, rfl, -, h9, h10⟩ := zy_arr Dy.2.2.2.2.1 h3 h1
      match e, h10, h9 with
      | .inl (cA, n, .inl f), ⟨_, ⟨i, h11⟩, h12, _⟩, h9 =>
        exact va_alen Cx.1 Cx.2.1 Dy.1 Dy.2.1 a i h9 h11 rfl hd (hr _ _ _ _ _ _ _ _ _ h4 Cx Dy hl ⟨by rw [← h12]; exact rfl, h2⟩ hret)
      | .inl (cA, n, .inr (.inl f)), ⟨_, ⟨i, h11⟩, h12, _⟩, h9 =>
        exact va_alen Cx.1 Cx.2.1 Dy.1 Dy.2.1 a i h9 h11 rfl hd (hr _ _ _ _ _ _ _ _ _ h4 Cx Dy hl ⟨by rw [← h12]; exact rfl, h2⟩ hret)
  | .inr (.inr (.inr (.inr (.inl a)))) :: r, v :: t, ⟨h1, h2⟩, h =>
    obtain ⟨q, hq, rfl, h4⟩ := zx_xa_ok (l := xa) (a := a) (o := outs) (f := fun q : Nat × Nat × List zx_V => zx_n (zx_len q.2.2) fun n => rec fr g w cs sl lo (.inl n :: r) (pc + 1)) h
    have h4 : zx_n (zx_len q.2.2) (fun n => rec fr g w cs sl lo (.inl n :: r) (pc + 1)) = some outs := h4
    rw [zx_n_eq, zx_len_eq] at h4
    obtain ⟨b, e1, e0, e2⟩ := Cx.2.2.2.2.2.2.1.2.1 q hq
    rw [show v = ex q.1 from h1, e1]
    exact va_tlen Cx.1 Cx.2.1 e2 Dy.2.2.2.1 rfl hd (hr _ _ _ _ _ _ _ _ _ h4 Cx Dy hl ⟨rfl, h2⟩ hret)
  | .inl _ :: r, _, _, h => cases h
  | .inr (.inl none) :: r, _, _, h => cases h
  | .inr (.inr (.inl _)) :: r, _, _, h => cases h
  | .inr (.inr (.inr (.inl _))) :: r, _, _, h => cases h
  | .inr (.inr (.inr (.inr (.inr _)))) :: r, _, _, h => cases h
theorem zy_cv {as : List Nat} {x : zx_V} (h : zx_isC x = true) : zy_v ρ ex as x (zy_c ρ x) := by
  match x, h with
  | .inl _, _ => exact rfl
  | .inr (.inr (.inr (.inl _))), _ => exact rfl
theorem zh_ald {ts : Nat → Bool} {nx : Nat} (hts3 : ∀ t, ts t = true → t < 3)
    (rowW : ∀ {t : Nat}, ts t = true → ∀ {p : Program} {l : Launch} {e : Env} {R : Room} {s : State} {m : MethodId} {args : Array Value} {below : List Frame} {meth : Method} {c : Code} {H : Heap} {locs : List Loc} {cells slots : Nat} {Q : State → Prop} {ls : Array Slot} {rest : List Value} {tys : List (ClassId × FieldType)} {ws : va_W} {q0 t0 a : Nat} {cA : ClassId} {n : Nat} {f : Nat → Int32} {i : Int32}, p.tables.exec = Jvm.exec → c.code = zx_bys k → va_K D zx_cl tys s → va_P D zx_cl ws H → ws[q0]? = some (a, .inl (cA, n, .inl f)) → tys[t0]? = some (cA, zx_ft t) → vp_in i n →
      W p l e R s m args below meth c H locs cells slots Q (F0 m nx ls (.int (f i.toNatClampNeg) :: rest)) → W p l e R s m args below meth c H locs cells slots Q (F0 m pc ls (.int i :: .ref a :: rest)))
    (rowX : ∀ {t : Nat}, ts t = true → ∀ {p : Program} {l : Launch} {e : Env} {R : Room} {s : State} {m : MethodId} {args : Array Value} {below : List Frame} {meth : Method} {c : Code} {H : Heap} {locs : List Loc} {cells slots : Nat} {Q : State → Prop} {ls : Array Slot} {rest : List Value} {A : Nat → Prop} {a n : Nat} {f : Nat → Value} {i : Int32}, p.tables.exec = Jvm.exec → c.code = zx_bys k → va_T (zx_ft t) a n f A s s.heap → va_S A s.heap H locs → vp_in i n →
      W p l e R s m args below meth c H locs cells slots Q (F0 m nx ls (f i.toNatClampNeg :: rest)) → W p l e R s m args below meth c H locs cells slots Q (F0 m pc ls (.int i :: .ref a :: rest))) : zy_Hok xa ρ ex D k pc (zx_ald xa ts nx) := by
  intro rec hr fr g w cs sl lo st outs hk h p l e R s m args below meth cd A as tys ws H locs ls sv Q Cx Dy hl hs hret
  subst hk
  have hg := Dy.2.2.2.2.2.1
  match st, sv, hs, h with
  | i :: .inr (.inl (some a)) :: r, vi :: v :: t, ⟨h0, h1, h2⟩, h =>
    have h : zx_nm g i (fun i => match i with
      | .inl n => zx_at w (fun c => match c with
        | .inl q => cond (ts q.1 && Nat.ble n 1000000) (zx_at q.2 (fun x => rec fr g w cs sl lo (x :: r) nx) n) none
        | .inr _ => none) a
      | _ => none) = some outs := h
    obtain ⟨i', h0, h⟩ := zx_nm_ok hg h0 h
    match i', h0, h with
    | .inl n, h0, h =>
      obtain ⟨x, h3, h4⟩ := zx_at_ok h
      match x, h3, h4 with
      | .inl (ty, vs), h3, h4 =>
        obtain ⟨hb, h4⟩ := zx_cond h4
        obtain ⟨hb1, hb2⟩ := Bool.and_eq_true_iff.mp hb
        have hb2 := Nat.le_of_ble_eq_true hb2
        obtain ⟨u, h5, h6⟩ := zx_at_ok h4
        obtain ⟨q, e, rfl, -, h9, h10⟩ := zy_arr Dy.2.2.2.2.1 h3 h1
        rw [show vi = _ from h0]
        match e, h10, h9 with
        | .inl (cA, nn, .inl f), ⟨_, ⟨j, h11⟩, h12, h13⟩, h9 =>
          refine rowW hb1 Cx.1 Cx.2.1 Dy.1 Dy.2.1 h9 h11 (zy_vin hb2 (by rw [h12]; exact (List.getElem?_eq_some_iff.mp h5).1)) (hr _ _ _ _ _ _ _ _ _ h6 Cx Dy hl ⟨?_, h2⟩ hret)
          rw [(zy_nn hb2).1]
          exact h13 n u h5
        | .inl (cA, nn, .inr (.inl f)), ⟨h11, _⟩, h9 => exact absurd (hts3 ty hb1) (by omega)
    | .inr _, h0, h => cases h
  | i :: .inr (.inr (.inr (.inr (.inl a)))) :: r, vi :: v :: t, ⟨h0, h1, h2⟩, h =>
    have h : zx_nm g i (fun i => match i with
      | .inl n => List.rec (motive := fun _ => zx_R) none (fun q _ ih => cond (Nat.beq q.1 a) ((fun q : Nat × Nat × List zx_V => cond (ts q.2.1 && Nat.ble n 1000000) (zx_at q.2.2 (fun x => zx_nm g x fun x => rec fr g w cs sl lo (x :: r) nx) n) none) q) ih) xa
      | _ => none) = some outs := h
    obtain ⟨i', h0, h⟩ := zx_nm_ok hg h0 h
    match i', h0, h with
    | .inl n, h0, h =>
      obtain ⟨q, hq, rfl, h4⟩ := zx_xa_ok (l := xa) (a := a) (o := outs) (f := fun q : Nat × Nat × List zx_V => cond (ts q.2.1 && Nat.ble n 1000000) (zx_at q.2.2 (fun x => zx_nm g x fun x => rec fr g w cs sl lo (x :: r) nx) n) none) h
      obtain ⟨hb, h4⟩ := zx_cond h4
      obtain ⟨hb1, hb2⟩ := Bool.and_eq_true_iff.mp hb
      have hb2 := Nat.le_of_ble_eq_true hb2
      obtain ⟨u, h5, h6⟩ := zx_at_ok h4
      obtain ⟨b, e1, e0, e2⟩ := Cx.2.2.2.2.2.2.1.2.1 q hq
      have hu : zy_v ρ ex as u (zy_c ρ u) := zy_cv (e0 u (List.mem_of_getElem? h5))
      obtain ⟨u', h7, h8⟩ := zx_nm_ok hg hu h6
      rw [show v = ex q.1 from h1, e1, show vi = _ from h0]
      refine rowX hb1 Cx.1 Cx.2.1 e2 Dy.2.2.2.1 (zy_vin hb2 (List.getElem?_eq_some_iff.mp h5).1) ?_
      have e3 : zy_c ρ (q.2.2.getD (Int32.ofNat n).toNatClampNeg zx_top) = zy_c ρ u := by rw [(zy_nn hb2).1, List.getD_eq_getElem?_getD, h5]; rfl
      rw [e3]
      exact hr _ _ _ _ _ _ _ _ _ h8 Cx Dy hl ⟨h7, h2⟩ hret
    | .inr _, h0, h => cases h
  | _ :: .inl _ :: r, _, _, h => cases h
  | _ :: .inr (.inl none) :: r, _, _, h => cases h
  | _ :: .inr (.inr (.inl _)) :: r, _, _, h => cases h
  | _ :: .inr (.inr (.inr (.inl _))) :: r, _, _, h => cases h
  | _ :: .inr (.inr (.inr (.inr (.inr _)))) :: r, _, _, h => cases h
def zy_nar (t : Nat) (x : Int32) : Int32 := match t with
  | 0 => x
  | t => vp_nar (zx_ft t) x
theorem zx_cvI_ok {f : Nat → Nat} {op : Int32 → Int32} (hf : ∀ a, Int32.ofNat (f a) = op (Int32.ofNat a)) {as : List Nat} {a : zx_V} {v : Value} {kk : zx_V → zx_R} {o : List zx_O} (hv : zy_v ρ ex as a v) (h : zx_cvI f a kk = some o) : ∃ x b, v = .int x ∧ zy_v ρ ex as b (.int (op x)) ∧ kk b = some o := by
  match a, hv, h with
  | .inl x, hv, h =>
    have h : zx_n (f x) (fun n => kk (.inl n)) = some o := h
    rw [zx_n_eq] at h
    exact ⟨_, _, hv, by rw [← hf]; exact rfl, h⟩
  | .inr u, hv, h =>
    obtain ⟨h3, h4⟩ := zx_cond (show cond (zx_isI (.inr u)) (kk zx_top) none = some o from h)
    obtain ⟨x, rfl⟩ := zy_isI h3 hv
    exact ⟨x, zx_top, rfl, ⟨_, rfl⟩, h4⟩
theorem zx_nar_ok {as : List Nat} {t : Nat} {a : zx_V} {v : Value} {kk : zx_V → zx_R} {o : List zx_O} (ht : t < 3) (hv : zy_v ρ ex as a v) (h : zx_nar t a kk = some o) : ∃ x b, v = .int x ∧ zy_v ρ ex as b (.int (zy_nar t x)) ∧ kk b = some o := by
  match t, ht, h with
  | 0, _, h =>
    obtain ⟨h1, h2⟩ := zx_cond (show cond (zx_isI a) (kk a) none = some o from h)
    obtain ⟨x, rfl⟩ := zy_isI h1 hv
    exact ⟨x, a, rfl, hv, h2⟩
  | 1, _, h => exact zx_cvI_ok (op := fun x => vp_nar .byte x) (fun a => zy_of32 _) hv h
  | 2, _, h => exact zx_cvI_ok (op := fun x => vp_nar .boolean x) (fun a => zy_of32 _) hv h
theorem zy_upd {as : List Nat} {vs : List zx_V} {f : Nat → Int32} {n : Nat} {b : zx_V} {x : Int32} (h : ∀ (j : Nat) (a : zx_V), vs[j]? = some a → zy_v ρ ex as a (.int (f j))) (hb : zy_v ρ ex as b (.int x)) : ∀ (j : Nat) (a : zx_V), (vs.set n b)[j]? = some a → zy_v ρ ex as a (.int (upd f n x j)) := by
  intro j a ha
  rw [List.getElem?_set] at ha
  unfold upd
  split at ha
  · rename_i e
    subst e
    split at ha
    · cases ha; rw [if_pos rfl]; exact hb
    · cases ha
  · rename_i e
    rw [if_neg (fun z => e z.symm)]
    exact h j a ha
theorem zh_ast {ts : Nat → Bool} {nx : Nat} (hts3 : ∀ t, ts t = true → t < 3)
    (rowW : ∀ {t : Nat}, ts t = true → ∀ {p : Program} {l : Launch} {e : Env} {R : Room} {s : State} {m : MethodId} {args : Array Value} {below : List Frame} {meth : Method} {c : Code} {H : Heap} {locs : List Loc} {cells slots : Nat} {Q : State → Prop} {ls : Array Slot} {rest : List Value} {tys : List (ClassId × FieldType)} {ws : va_W} {A : Nat → Prop} {q0 t0 a : Nat} {cA : ClassId} {n : Nat} {f : Nat → Int32} {i x : Int32}, p.tables.exec = Jvm.exec → c.code = zx_bys k → va_K D zx_cl tys s → va_P D zx_cl ws H → va_D A ws → va_S A s.heap H locs → ws[q0]? = some (a, .inl (cA, n, .inl f)) → tys[t0]? = some (cA, zx_ft t) → vp_in i n →
      (∀ (H1 : Heap) (locs1 : List Loc), va_P D zx_cl (ws.set q0 (a, .inl (cA, n, .inl (upd f i.toNatClampNeg (zy_nar t x))))) H1 → va_D A (ws.set q0 (a, .inl (cA, n, .inl (upd f i.toNatClampNeg (zy_nar t x))))) → va_S A s.heap H1 locs1 → W p l e R s m args below meth c H1 locs1 cells slots Q (F0 m nx ls rest)) → W p l e R s m args below meth c H locs cells slots Q (F0 m pc ls (.int x :: .int i :: .ref a :: rest))) : zy_Hok xa ρ ex D k pc (zx_ast ts nx) := by
  intro rec hr fr g w cs sl lo st outs hk h p l e R s m args below meth cd A as tys ws H locs ls sv Q Cx Dy hl hs hret
  subst hk
  have hg := Dy.2.2.2.2.2.1
  match st, sv, hs, h with
  | x :: i :: .inr (.inl (some a)) :: r, vx :: vi :: v :: t, ⟨hx0, h0, h1, h2⟩, h =>
    have h : zx_nm g i (fun i => match i with
      | .inl n => zx_at w (fun c => match c with
        | .inl q => cond (ts q.1 && Nat.ble n 1000000) (zx_nar q.1 x fun y => zx_set y q.2 n fun vs => zx_set (.inl (q.1, vs)) w a fun w2 => rec fr g w2 cs sl lo r nx) none
        | .inr _ => none) a
      | _ => none) = some outs := h
    obtain ⟨i', h0, h⟩ := zx_nm_ok hg h0 h
    match i', h0, h with
    | .inl n, h0, h =>
      obtain ⟨z, h3, h4⟩ := zx_at_ok h
      match z, h3, h4 with
      | .inl (ty, vs), h3, h4 =>
        obtain ⟨hb, h4⟩ := zx_cond h4
        obtain ⟨hb1, hb2⟩ := Bool.and_eq_true_iff.mp hb
        have hb2 := Nat.le_of_ble_eq_true hb2
        obtain ⟨xx, b, rfl, hy, h4⟩ := zx_nar_ok (hts3 ty hb1) hx0 h4
        obtain ⟨h5, h6⟩ := zx_set_ok h4
        obtain ⟨-, h6⟩ := zx_set_ok h6
        obtain ⟨q, e, rfl, haq, h9, h10⟩ := zy_arr Dy.2.2.2.2.1 h3 h1
        rw [show vi = _ from h0]
        match e, h10, h9 with
        | .inl (cA, nn, .inl f), ⟨h14, ⟨j, h11⟩, h12, h13⟩, h9 =>
          refine rowW hb1 Cx.1 Cx.2.1 Dy.1 Dy.2.1 Dy.2.2.1 Dy.2.2.2.1 h9 h11 (zy_vin hb2 (by rw [h12]; exact h5)) (fun H1 locs1 p1 d1 s1 => ?_)
          rw [(zy_nn hb2).1] at p1 d1
          exact hr _ _ _ _ _ _ _ _ _ h6 Cx ⟨Dy.1, p1, d1, s1, zy_wset Dy.2.2.2.2.1 haq ⟨h14, ⟨j, h11⟩, by rw [List.length_set]; exact h12, zy_upd h13 hy⟩, Dy.2.2.2.2.2⟩ hl h2 hret
        | .inl (cA, nn, .inr (.inl f)), ⟨h11, _⟩, h9 => exact absurd (hts3 ty hb1) (by omega)
    | .inr _, h0, h => cases h
  | _ :: _ :: .inl _ :: r, _, _, h => cases h
  | _ :: _ :: .inr (.inl none) :: r, _, _, h => cases h
  | _ :: _ :: .inr (.inr _) :: r, _, _, h => cases h
theorem zy_updL {as : List Nat} {vs : List zx_V} {f : Nat → Int64} {n : Nat} {b : zx_V} {x : Int64} (h : ∀ (j : Nat) (a : zx_V), vs[j]? = some a → zy_v ρ ex as a (.long (f j))) (hb : zy_v ρ ex as b (.long x)) : ∀ (j : Nat) (a : zx_V), (vs.set n b)[j]? = some a → zy_v ρ ex as a (.long (vp_updL f n x j)) := by
  intro j a ha
  rw [List.getElem?_set] at ha
  unfold vp_updL
  split at ha
  · rename_i e
    subst e
    split at ha
    · cases ha; rw [if_pos rfl]; exact hb
    · cases ha
  · rename_i e
    rw [if_neg (fun z => e z.symm)]
    exact h j a ha
theorem zh_lst {nx : Nat} (hd : decode (zx_bys k) pc = .ok (.lastore, 1)) (hn : nx = pc + 1) : zy_Hok xa ρ ex D k pc (zx_ast (fun t => Nat.beq t 3) nx) := by
  intro rec hr fr g w cs sl lo st outs hk h p l e R s m args below meth cd A as tys ws H locs ls sv Q Cx Dy hl hs hret
  subst hk; subst hn
  have hg := Dy.2.2.2.2.2.1
  match st, sv, hs, h with
  | x :: i :: .inr (.inl (some a)) :: r, vx :: vi :: v :: t, ⟨hx0, h0, h1, h2⟩, h =>
    have h : zx_nm g i (fun i => match i with
      | .inl n => zx_at w (fun c => match c with
        | .inl q => cond (Nat.beq q.1 3 && Nat.ble n 1000000) (zx_nar q.1 x fun y => zx_set y q.2 n fun vs => zx_set (.inl (q.1, vs)) w a fun w2 => rec fr g w2 cs sl lo r (pc + 1)) none
        | .inr _ => none) a
      | _ => none) = some outs := h
    obtain ⟨i', h0, h⟩ := zx_nm_ok hg h0 h
    match i', h0, h with
    | .inl n, h0, h =>
      obtain ⟨z, h3, h4⟩ := zx_at_ok h
      match z, h3, h4 with
      | .inl (ty, vs), h3, h4 =>
        obtain ⟨hb, h4⟩ := zx_cond h4
        obtain ⟨hb1, hb2⟩ := Bool.and_eq_true_iff.mp hb
        have hb2 := Nat.le_of_ble_eq_true hb2
        have e3 : ty = 3 := Nat.eq_of_beq_eq_true hb1
        subst e3
        obtain ⟨hxl, h4⟩ := zx_cond (show cond (zx_isL x) (zx_set x vs n fun vs => zx_set (.inl (3, vs)) w a fun w2 => rec fr g w2 cs sl lo r (pc + 1)) none = some outs from h4)
        obtain ⟨xx, rfl⟩ := zy_isL hxl hx0
        obtain ⟨h5, h6⟩ := zx_set_ok h4
        obtain ⟨-, h6⟩ := zx_set_ok h6
        obtain ⟨q, e, rfl, haq, h9, h10⟩ := zy_arr Dy.2.2.2.2.1 h3 h1
        rw [show vi = _ from h0]
        match e, h10, h9 with
        | .inl (cA, nn, .inl f), ⟨h14, _⟩, h9 => exact absurd h14 (by omega)
        | .inl (cA, nn, .inr (.inl f)), ⟨h14, ⟨j, h11⟩, h12, h13⟩, h9 =>
          refine va_last Cx.1 Cx.2.1 Dy.1 Dy.2.1 Dy.2.2.1 Dy.2.2.2.1 a j h9 h11 (zy_vin hb2 (by rw [h12]; exact h5)) hd (fun H1 locs1 p1 d1 s1 => ?_)
          rw [(zy_nn hb2).1] at p1 d1
          refine hr _ _ _ _ _ _ _ _ _ h6 Cx ⟨Dy.1, p1, d1, s1, zy_wset Dy.2.2.2.2.1 haq ⟨h14, ⟨j, h11⟩, by rw [List.length_set]; exact h12, ?_⟩, Dy.2.2.2.2.2⟩ hl h2 hret
          exact zy_updL h13 hx0
    | .inr _, h0, h => cases h
  | _ :: _ :: .inl _ :: r, _, _, h => cases h
  | _ :: _ :: .inr (.inl none) :: r, _, _, h => cases h
  | _ :: _ :: .inr (.inr _) :: r, _, _, h => cases h
theorem zh_ret {t : Nat} (hd : decode (zx_bys k) pc = .ok (.ireturn, 1)) (ht : zx_rk (zx_info k).2.1 t) : zy_Hok xa ρ ex D k pc (zx_ret t) := by
  intro rec hr fr g w cs sl lo st outs hk h p l e R s m args below meth cd A as tys ws H locs ls sv Q Cx Dy hl hs hret
  subst hk
  match st, sv, hs, h with
  | [a], [v], ⟨h1, _⟩, h =>
    obtain ⟨h2, h3⟩ := zx_cond h
    cases h3
    exact (hret (g, w, .inl (some a)) List.mem_cons_self as tys ws H locs zy_p.rf).1 (some a) rfl cs sl pc ls [v] Dy ⟨v, rfl, h1, Or.inl ⟨hd, t, ht, h2⟩⟩
  | [], _, _, h => cases h
  | _ :: _ :: _, _, _, h => cases h
theorem zh_lret (hd : decode (zx_bys k) pc = .ok (.lreturn, 1)) (ht : (zx_info k).2.1 = some .long) : zy_Hok xa ρ ex D k pc (zx_ret 3) := by
  intro rec hr fr g w cs sl lo st outs hk h p l e R s m args below meth cd A as tys ws H locs ls sv Q Cx Dy hl hs hret
  subst hk
  match st, sv, hs, h with
  | [a], [v], ⟨h1, _⟩, h =>
    obtain ⟨h2, h3⟩ := zx_cond h
    cases h3
    exact (hret (g, w, .inl (some a)) List.mem_cons_self as tys ws H locs zy_p.rf).1 (some a) rfl cs sl pc ls [v] Dy ⟨v, rfl, h1, Or.inr ⟨hd, ht, h2⟩⟩
  | [], _, _, h => cases h
  | _ :: _ :: _, _, _, h => cases h
theorem zh_vret (hd : decode (zx_bys k) pc = .ok (.return_, 1)) (ht : (zx_info k).2.1 = none) : zy_Hok xa ρ ex D k pc zx_vret := by
  intro rec hr fr g w cs sl lo st outs hk h p l e R s m args below meth cd A as tys ws H locs ls sv Q Cx Dy hl hs hret
  subst hk
  match st, sv, hs, h with
  | [], [], _, h =>
    cases h
    exact (hret (g, w, .inl none) List.mem_cons_self as tys ws H locs zy_p.rf).1 none rfl cs sl pc ls [] Dy ⟨rfl, hd, ht⟩
  | _ :: _, _, _, h => cases h
theorem zx_tl_eq {kd : zx_R} {kt : Nat → zx_R} : ∀ (ts : List Nat) (j : Nat), List.rec (motive := fun _ => Nat → zx_R) (fun _ => kd) (fun t _ ih j => Nat.rec (motive := fun _ => zx_R) (kt t) (fun i _ => ih i) j) ts j = (match ts[j]? with | some t => kt t | none => kd)
  | [], j => rfl
  | t :: r, 0 => rfl
  | t :: r, j + 1 => zx_tl_eq r j
theorem zh_tsw {dflt lo hi : Int} {offs : Array Int} {len d : Nat} {ts : List Nat} (hd : decode (zx_bys k) pc = .ok (.tableswitch dflt lo hi offs, len)) (h1 : (pc : Int) + dflt = (d : Int)) (h2 : hi = lo + ts.length - 1) (h3 : ∀ (j t : Nat), ts[j]? = some t → ∃ off, offs[j]? = some off ∧ (pc : Int) + off = (t : Int)) : zy_Hok xa ρ ex D k pc (zx_tsw lo (d :: ts)) := by
  intro rec hr fr g w cs sl lo2 st outs hk h p l e R s m args below meth cd A as tys ws H locs ls sv Q Cx Dy hl hs hret
  subst hk
  match st, sv, hs, h with
  | a :: r, v :: t, ⟨e1, e2⟩, h =>
    have h : zx_nm g a (fun v => match v with
      | .inl n => zx_i (zx_s n - lo) fun x => (match x with
        | Int.ofNat j => List.rec (motive := fun _ => Nat → zx_R) (fun _ => rec fr g w cs sl lo2 r d) (fun t _ ih j => Nat.rec (motive := fun _ => zx_R) (rec fr g w cs sl lo2 r t) (fun i _ => ih i) j) ts j
        | Int.negSucc _ => rec fr g w cs sl lo2 r d)
      | .inr (.inr (.inr (.inl i))) => zx_at g (fun q => cond (decide (q.2 < lo) || decide (lo + ts.length ≤ q.1)) (rec fr g w cs sl lo2 r d) none) i
      | _ => none) = some outs := h
    obtain ⟨a', e1, h⟩ := zx_nm_ok Dy.2.2.2.2.2.1 e1 h
    rcases a' with n | a'
    · rw [show v = _ from e1]
      have hI := zy_toInt n
      generalize hx : Int32.ofNat n = x at hI ⊢
      have h : zx_i (zx_s n - lo) (fun x => match x with
        | Int.ofNat j => List.rec (motive := fun _ => Nat → zx_R) (fun _ => rec fr g w cs sl lo2 r d) (fun t _ ih j => Nat.rec (motive := fun _ => zx_R) (rec fr g w cs sl lo2 r t) (fun i _ => ih i) j) ts j
        | Int.negSucc _ => rec fr g w cs sl lo2 r d) = some outs := h
      rw [zx_i_eq, ← hI] at h
      cases hz : x.toInt - lo with
      | negSucc j =>
        rw [hz] at h
        exact lv_tableOut Cx.1 Cx.2.1 hd (Or.inl (by omega)) h1 (hr _ _ _ _ _ _ _ _ _ h Cx Dy hl e2 hret)
      | ofNat j =>
        rw [hz] at h
        have h := h
        dsimp only at h
        rw [zx_tl_eq] at h
        have hz : x.toInt - lo = (j : Int) := hz
        cases hj : ts[j]? with
        | none =>
          rw [hj] at h
          have hlen : ts.length ≤ j := List.getElem?_eq_none_iff.mp hj
          exact lv_tableOut Cx.1 Cx.2.1 hd (Or.inr (by omega)) h1 (hr _ _ _ _ _ _ _ _ _ h Cx Dy hl e2 hret)
        | some tt =>
          rw [hj] at h
          have hlen : j < ts.length := (List.getElem?_eq_some_iff.mp hj).1
          obtain ⟨off, o1, o2⟩ := h3 j tt hj
          exact lv_tableIn Cx.1 Cx.2.1 hd (by omega) (by omega) (by rw [hz]; exact o1) o2 (hr _ _ _ _ _ _ _ _ _ h Cx Dy hl e2 hret)
    · rcases a' with _ | _ | i | _ | _
      · cases h
      · cases h
      · obtain ⟨q, h4, h5⟩ := zx_at_ok h
        obtain ⟨h6, h7⟩ := zx_cond h5
        obtain ⟨b1, b2⟩ := Dy.2.2.2.2.2.1 i q h4
        rw [show v = _ from e1]
        refine lv_tableOut Cx.1 Cx.2.1 hd ?_ h1 (hr _ _ _ _ _ _ _ _ _ h7 Cx Dy hl e2 hret)
        rcases Bool.or_eq_true_iff.mp h6 with z | z
        · have z := of_decide_eq_true z
          left; omega
        · have z := of_decide_eq_true z
          right; omega
      · cases h
      · cases h
theorem zh_oin {nx idx : Nat} (h1 : Jvm.Cond.methodLink (zx_name k).cls idx objectInit ∈ zx_tb) (h2 : Jvm.Cond.instanceMethod objectInit ∈ zx_tb) (h3 : Jvm.Cond.code objectInit ⟨#[0xb1]⟩ 1 none ∈ zx_tb) (hd : decode (zx_bys k) pc = .ok (.invokespecial idx, 3)) (hn : nx = pc + 3) : zy_Hok xa ρ ex D k pc (zx_oin nx) := by
  intro rec hr fr g w cs sl lo st outs hk h p l e R s m args below meth cd A as tys ws H locs ls sv Q Cx Dy hl hs hret
  subst hk; subst hn
  match st, sv, hs, h with
  | .inr (.inl (some a)) :: r, v :: t, ⟨⟨q, e0, e3⟩, e2⟩, h =>
    rw [e3]
    have h : cond (Nat.ble (zx_dep r) 8 && Nat.ble 1 fr.1) (rec fr g w cs sl lo r (pc + 3)) none = some outs := h
    obtain ⟨hb, h⟩ := zx_cond h
    obtain ⟨hb1, hb2⟩ := Bool.and_eq_true_iff.mp hb
    have hb1 := Nat.le_of_ble_eq_true hb1
    have hb2 := Nat.le_of_ble_eq_true hb2
    have hts := Cx.2.2.2.2.1
    have hdp := zy_dep Cx.2.2.2.2.2.2.1.1 e2
    refine W.objInit (own := (zx_name fr.2.1).cls) (rest := t) Cx.1 Cx.2.1 Cx.2.2.2.1 (hts _ h1) (hts _ h2) (hts _ h3) rfl (by rw [Cx.2.2.1]; exact hl.1) rfl hd (Nat.le_trans hb2 Cx.2.2.2.2.2.2.2.1) ?_ (hr _ _ _ _ _ _ _ _ _ h Cx Dy hl e2 hret)
    have hR := Cx.2.2.2.2.2.2.2.2.1
    show 2 * 0 + _ + 12 ≤ _
    rw [hdp]
    omega
  | .inl _ :: r, _, _, h => cases h
  | .inr (.inl none) :: r, _, _, h => cases h
  | .inr (.inr _) :: r, _, _, h => cases h
end ZA
end
section
/-! calls, and the copying of arrays -/
section ZC
variable {xa : List (Nat × Nat × List zx_V)} {ρ : Nat → Int32} {ex : Nat → Value} {D : va_G} {k pc : Nat}
theorem zx_drop_ok {α : Type} {o : List zx_O} : ∀ {l : List α} {i : Nat} {kk : List α → zx_R}, zx_drop l i kk = some o → i ≤ l.length ∧ kk (l.drop i) = some o
  | [], 0, kk, h => ⟨Nat.le_refl _, h⟩
  | [], i + 1, kk, h => by cases h
  | x :: t, 0, kk, h => ⟨Nat.zero_le _, h⟩
  | x :: t, i + 1, kk, h => by
    obtain ⟨h1, h2⟩ := zx_drop_ok (l := t) (i := i) (kk := kk) h
    exact ⟨Nat.succ_le_succ h1, h2⟩
theorem zx_over_ok {α : Type} {o : List zx_O} : ∀ {l : List α} {n : Nat} {m : List α} {kk : List α → zx_R}, zx_over l n m kk = some o → n ≤ l.length ∧ n ≤ m.length ∧ kk (l.take n ++ m.drop n) = some o
  | [], 0, m, kk, h => ⟨Nat.le_refl _, Nat.zero_le _, h⟩
  | [], n + 1, m, kk, h => by cases h
  | x :: t, 0, m, kk, h => ⟨Nat.zero_le _, Nat.zero_le _, h⟩
  | x :: t, n + 1, [], kk, h => by cases h
  | x :: t, n + 1, y :: m, kk, h => by
    obtain ⟨h1, h2, h3⟩ := zx_over_ok (l := t) (n := n) (m := m) (kk := fun r => kk (x :: r)) h
    exact ⟨Nat.succ_le_succ h1, Nat.succ_le_succ h2, h3⟩
theorem zx_into_ok {α : Type} {l : List α} {n : Nat} {o : List zx_O} : ∀ {m : List α} {d : Nat} {kk : List α → zx_R}, zx_into l n m d kk = some o → n ≤ l.length ∧ d + n ≤ m.length ∧ kk (m.take d ++ (l.take n ++ m.drop (d + n))) = some o
  | [], 0, kk, h => by
    obtain ⟨h1, h2, h3⟩ := zx_over_ok (show zx_over l n [] kk = some o from h)
    exact ⟨h1, by simpa using h2, by simpa using h3⟩
  | [], d + 1, kk, h => by cases h
  | x :: t, 0, kk, h => by
    obtain ⟨h1, h2, h3⟩ := zx_over_ok (show zx_over l n (x :: t) kk = some o from h)
    exact ⟨h1, by simpa using h2, by simpa using h3⟩
  | x :: t, d + 1, kk, h => by
    obtain ⟨h1, h2, h3⟩ := zx_into_ok (m := t) (d := d) (kk := fun r => kk (x :: r)) h
    refine ⟨h1, by simp only [List.length_cons]; omega, ?_⟩
    rw [show d + 1 + n = (d + n) + 1 by omega]
    exact h3
theorem zy_cpyv {as : List Nat} {us vs : List zx_V} {f g : Nat → Int32} {sp dp n : Nat} (hf : ∀ (j : Nat) (a : zx_V), us[j]? = some a → zy_v ρ ex as a (.int (f j))) (hg : ∀ (j : Nat) (a : zx_V), vs[j]? = some a → zy_v ρ ex as a (.int (g j))) (h1 : sp + n ≤ us.length) (h2 : dp + n ≤ vs.length) :
    ∀ (j : Nat) (a : zx_V), (vs.take dp ++ ((us.drop sp).take n ++ vs.drop (dp + n)))[j]? = some a → zy_v ρ ex as a (.int (va_cpy f g sp dp n j)) := by
  intro j a ha
  unfold va_cpy
  have l1 : (vs.take dp).length = dp := by rw [List.length_take]; omega
  have l2 : ((us.drop sp).take n).length = n := by rw [List.length_take, List.length_drop]; omega
  by_cases c1 : j < dp
  · rw [if_neg (by omega)]
    rw [List.getElem?_append_left (by omega), List.getElem?_take, if_pos c1] at ha
    exact hg j a ha
  · rw [List.getElem?_append_right (by omega), l1] at ha
    by_cases c2 : j < dp + n
    · rw [if_pos ⟨by omega, c2⟩]
      rw [List.getElem?_append_left (by omega), List.getElem?_take, if_pos (by omega), List.getElem?_drop] at ha
      exact hf _ a ha
    · rw [if_neg (by omega)]
      rw [List.getElem?_append_right (by omega), l2, List.getElem?_drop] at ha
      rw [show dp + n + (j - dp - n) = j by omega] at ha
      exact hg j a ha
theorem zh_cpy {nx idx : Nat} (h1 : Jvm.Cond.methodLink (zx_name k).cls idx arraycopyName ∈ zx_tb) (h2 : Jvm.Cond.native arraycopyName ∈ zx_tb) (h3 : Jvm.Cond.static arraycopyName ∈ zx_tb) (h4 : Jvm.Cond.initialized "java/lang/System" ∈ zx_tb) (hd : decode (zx_bys k) pc = .ok (.invokestatic idx, 3)) (hn : nx = pc + 3) : zy_Hok xa ρ ex D k pc (zx_cpy nx) := by
  intro rec hr fr g w cs sl lo st outs hk h p l e R s m args below meth cd A as tys ws H locs ls sv Q Cx Dy hl hs hret
  subst hk; subst hn
  have key : ∀ {n dp d sp s0 : Nat} {r : List zx_V} {vn vdp vd vsp vs0 : Value} {t : List Value}, zy_v ρ ex as (.inl n) vn → zy_v ρ ex as (.inl dp) vdp → zy_v ρ ex as (.inr (.inl (some d))) vd → zy_v ρ ex as (.inl sp) vsp → zy_v ρ ex as (.inr (.inl (some s0))) vs0 → zy_s ρ ex as r t →
      cond (Nat.ble n 1000000 && Nat.ble dp 1000000 && Nat.ble sp 1000000 && Nat.ble (zx_dep r) 8 && Nat.ble 1 fr.1) (zx_at w (fun c => match c with
        | .inl q => cond (Nat.beq q.1 0) (zx_at w (fun c2 => match c2 with
          | .inl q2 => cond (Nat.beq q2.1 0) (zx_drop q.2 sp fun l => zx_into l n q2.2 dp fun vs => zx_set (.inl (0, vs)) w d fun w2 => rec fr g w2 cs sl lo r (pc + 3)) none
          | .inr _ => none) d) none
        | .inr _ => none) s0) none = some outs → W p l e R s m args below meth cd H locs cs sl Q (F0 m pc ls (vn :: vdp :: vd :: vsp :: vs0 :: t)) := by
    intro n dp d sp s0 r vn vdp vd vsp vs0 t e1 e2 e3 e4 e5 e6 h
    obtain ⟨hb, h⟩ := zx_cond h
    obtain ⟨hb, hb5⟩ := Bool.and_eq_true_iff.mp hb
    obtain ⟨hb, hb4⟩ := Bool.and_eq_true_iff.mp hb
    obtain ⟨hb, hb3⟩ := Bool.and_eq_true_iff.mp hb
    obtain ⟨hb1, hb2⟩ := Bool.and_eq_true_iff.mp hb
    have hb1 := Nat.le_of_ble_eq_true hb1
    have hb2 := Nat.le_of_ble_eq_true hb2
    have hb3 := Nat.le_of_ble_eq_true hb3
    have hb4 := Nat.le_of_ble_eq_true hb4
    have hb5 := Nat.le_of_ble_eq_true hb5
    obtain ⟨z, k1, h⟩ := zx_at_ok h
    rcases z with ⟨ty, us⟩ | z
    · obtain ⟨t1, h⟩ := zx_cond h
      have t1 : ty = 0 := Nat.eq_of_beq_eq_true t1
      subst t1
      obtain ⟨z, k2, h⟩ := zx_at_ok h
      rcases z with ⟨ty, vs⟩ | z
      · obtain ⟨t1, h⟩ := zx_cond h
        have t1 : ty = 0 := Nat.eq_of_beq_eq_true t1
        subst t1
        obtain ⟨k3, h⟩ := zx_drop_ok h
        obtain ⟨k4, k5, h⟩ := zx_into_ok h
        obtain ⟨-, h⟩ := zx_set_ok h
        have k4 : sp + n ≤ us.length := by
          have k4 : n ≤ (us.drop sp).length := k4
          rw [List.length_drop] at k4
          have k3 : sp ≤ us.length := k3
          omega
        have k5 : dp + n ≤ vs.length := k5
        obtain ⟨q, ea, rfl, hq, k6, k7⟩ := zy_arr Dy.2.2.2.2.1 k1 e5
        obtain ⟨q2, eb, rfl, hq2, k8, k9⟩ := zy_arr Dy.2.2.2.2.1 k2 e3
        match ea, k7, k6 with
        | .inl (cA, n0, .inr (.inl f)), ⟨z, _⟩, _ => exact absurd z (by omega)
        | .inl (cA, n0, .inl f), ⟨_, ⟨i0, a1⟩, a2, a3⟩, k6 =>
          match eb, k9, k8 with
          | .inl (cB, n1, .inr (.inl g)), ⟨z, _⟩, _ => exact absurd z (by omega)
          | .inl (cB, n1, .inl gg), ⟨b0, ⟨i1, b1⟩, b2, b3⟩, k8 =>
            have hts := Cx.2.2.2.2.1
            have hdp := zy_dep Cx.2.2.2.2.2.2.1.1 e6
            have hR := Cx.2.2.2.2.2.2.2.2.1
            rw [show vn = _ from e1, show vdp = _ from e2, show vsp = _ from e4]
            obtain ⟨x1, x2⟩ := zy_nn hb1
            obtain ⟨y1, y2⟩ := zy_nn hb2
            obtain ⟨z1, z2⟩ := zy_nn hb3
            refine va_copyi (own := (zx_name fr.2.1).cls) Cx.1 Cx.2.1 (by rw [Cx.2.2.1]; exact hl.1.symm) Cx.2.2.2.1 (hts _ h1) (hts _ h2) (hts _ h3) (hts _ h4) Dy.1 Dy.2.1 Dy.2.2.1 Dy.2.2.2.1 s0 d i0 i1 k6 k8 a1 b1 rfl z2 y2 x2 (by rw [z1, x1, a2]; exact k4) (by rw [y1, x1, b2]; exact k5) (fun _ _ => rfl) (Nat.le_trans hb5 Cx.2.2.2.2.2.2.2.1) (by rw [hdp]; show _ + (7 + 11) ≤ _; omega) hd (fun H1 locs1 p1 d1 s1 => ?_)
            rw [x1, y1, z1] at p1 d1
            refine hr _ _ _ _ _ _ _ _ _ h Cx ⟨Dy.1, p1, d1, s1, zy_wset Dy.2.2.2.2.1 hq2 ⟨b0, ⟨i1, b1⟩, ?_, zy_cpyv a3 b3 k4 k5⟩, Dy.2.2.2.2.2⟩ hl e6 hret
            rw [b2]
            simp only [List.length_append, List.length_take, List.length_drop]
            omega
      · cases h
    · cases h
  match st, sv, hs, h with
  | .inl n :: .inl dp :: .inr (.inl (some d)) :: .inl sp :: .inr (.inl (some s0)) :: r, vn :: vdp :: vd :: vsp :: vs0 :: t, ⟨e1, e2, e3, e4, e5, e6⟩, h => exact key e1 e2 e3 e4 e5 e6 h
theorem zx_args_ok {o : List zx_O} {kk : zx_L → List zx_V → zx_R} {as : List Nat} : ∀ {is : List Nat} {st : List zx_V} {lo : zx_L} {sv base : List Value}, zx_args is st lo kk = some o → zy_s ρ ex as st sv → zy_s ρ ex as (lo.map Prod.snd) base → ∃ (av : zx_L) (r : List zx_V) (cs t : List Value), kk av r = some o ∧ sv = cs ++ t ∧ cs.length = is.length ∧ zy_s ρ ex as r t ∧ zy_s ρ ex as (av.map Prod.snd) (cs.reverse ++ base)
  | [], st, lo, sv, base, h, hs, hb => ⟨lo, st, [], sv, h, rfl, rfl, hs, hb⟩
  | i :: is, [], lo, sv, base, h, hs, hb => by cases h
  | i :: is, v :: r, lo, c :: t, base, h, ⟨h1, h2⟩, hb => by
    obtain ⟨av, r', cs, t', e1, e2, e3, e4, e5⟩ := zx_args_ok (is := is) (st := r) (lo := (i, v) :: lo) (sv := t) (base := c :: base) h h2 ⟨h1, hb⟩
    refine ⟨av, r', c :: cs, t', e1, by rw [e2]; rfl, by rw [List.length_cons, List.length_cons, e3], e4, ?_⟩
    rw [List.reverse_cons, List.append_assoc]
    exact e5
theorem zx_pos_ok (hex : ∀ j, ex j = .null ∨ ∃ a, ex j = .ref a) {mx : Nat} {as : List Nat} : ∀ {av : zx_L} {n : Nat} {vs : List Value}, zx_pos mx av n = true → zy_s ρ ex as (av.map Prod.snd) vs → (∀ q ∈ av, ∃ v, (q.1, v) ∈ lv_args n vs ∧ zy_v ρ ex as q.2 v) ∧ n + (lg_sl vs).length ≤ mx
  | [], n, [], h, _ => ⟨fun q hq => (by cases hq), by simpa [lg_sl] using Nat.le_of_ble_eq_true h⟩
  | q :: r, n, v :: vs, h, ⟨h1, h2⟩ => by
    have h : cond (Nat.beq q.1 n) (cond (zx_isL q.2) (zx_pos mx r (n + 2)) (zx_pos mx r (n + 1))) false = true := h
    have hc := zy_cat hex h1
    cases hb : Nat.beq q.1 n with
    | false => rw [hb] at h; cases h
    | true =>
      rw [hb] at h
      have e := Nat.eq_of_beq_eq_true hb
      cases hL : zx_isL q.2 with
      | true =>
        rw [hL] at h hc
        have hc : v.category = 2 := hc
        obtain ⟨k1, k2⟩ := zx_pos_ok hex (av := r) (n := n + 2) (vs := vs) h h2
        refine ⟨fun z hz => ?_, ?_⟩
        · rcases List.mem_cons.mp hz with rfl | hz
          · exact ⟨v, by rw [e]; exact List.mem_cons_self, h1⟩
          · obtain ⟨u, u1, u2⟩ := k1 z hz
            refine ⟨u, ?_, u2⟩
            show _ ∈ (n, v) :: lv_args (if v.category = 2 then n + 2 else n + 1) vs
            rw [if_pos hc]
            exact List.mem_cons_of_mem _ u1
        · have : (lg_sl (v :: vs)).length = 2 + (lg_sl vs).length := by
            unfold lg_sl
            rw [List.flatMap_cons, List.length_append, if_pos hc]
            rfl
          omega
      | false =>
        rw [hL] at h hc
        have hc : v.category = 1 := hc
        have hc2 : ¬ v.category = 2 := by omega
        obtain ⟨k1, k2⟩ := zx_pos_ok hex (av := r) (n := n + 1) (vs := vs) h h2
        refine ⟨fun z hz => ?_, ?_⟩
        · rcases List.mem_cons.mp hz with rfl | hz
          · exact ⟨v, by rw [e]; exact List.mem_cons_self, h1⟩
          · obtain ⟨u, u1, u2⟩ := k1 z hz
            refine ⟨u, ?_, u2⟩
            show _ ∈ (n, v) :: lv_args (if v.category = 2 then n + 2 else n + 1) vs
            rw [if_neg hc2]
            exact List.mem_cons_of_mem _ u1
        · have : (lg_sl (v :: vs)).length = 1 + (lg_sl vs).length := by
            unfold lg_sl
            rw [List.flatMap_cons, List.length_append, if_neg hc2]
            rfl
          omega
theorem zx_each_ok {f : zx_O → zx_R} {res : List zx_O} : ∀ {l : List zx_O}, zx_each l f = some res → ∀ o ∈ l, ∃ x, f o = some x ∧ ∀ z ∈ x, z ∈ res
  | [], h, o, ho => by cases ho
  | [a], h, o, ho => by
    rcases List.mem_cons.mp ho with rfl | ho
    · exact ⟨res, h, fun _ z => z⟩
    · cases ho
  | a :: b :: r, h, o, ho => by
    have h : (match f a with
      | none => none
      | some l1 => (match zx_each (b :: r) f with
        | none => none
        | some l2 => some (l1 ++ l2))) = some res := h
    cases h1 : f a with
    | none => rw [h1] at h; cases h
    | some l1 =>
      rw [h1] at h
      cases h2 : zx_each (b :: r) f with
      | none => rw [h2] at h; cases h
      | some l2 =>
        rw [h2] at h
        cases h
        rcases List.mem_cons.mp ho with rfl | ho
        · exact ⟨l1, h1, fun z hz => List.mem_append_left _ hz⟩
        · obtain ⟨x, x1, x2⟩ := zx_each_ok (l := b :: r) h2 o ho
          exact ⟨x, x1, fun z hz => List.mem_append_right _ (x2 z hz)⟩
def zy_oc (ρ : Nat → Int32) (ex : Nat → Value) (as : List Nat) (rv : Option zx_V) (oc : Outcome) : Prop := match rv with
  | none => oc = .returned none
  | some a => ∃ v, oc = .returned (some v) ∧ zy_v ρ ex as a v
/-- what a call comes to -/
def zy_Qc (ρ : Nat → Int32) (ex : Nat → Value) (D : va_G) (as : List Nat) (outs : List zx_O) (A : Nat → Prop) : Array Value → State → Outcome → State → Prop := fun _ st oc t =>
  (∃ o ∈ outs, ∃ rv, o.2.2 = .inl rv ∧ ∃ (as' : List Nat) (tys' : List (ClassId × FieldType)) (ws' : va_W), zy_p as as' ∧ zy_g ρ o.1 ∧ va_K D zx_cl tys' t ∧ va_P D zx_cl ws' t.heap ∧ va_D A ws' ∧ zy_w ρ ex tys' as' o.2.1 ws' ∧ zy_oc ρ ex as' rv oc) ∧ va_F A st t
/-- what the tables say of a method that is called: its class's name is plain, its most locals -/
def zk_m (k mc ms mx : Nat) : Prop := plainName (zx_name k).cls = true ∧ (zx_info k).1 = mx ∧ mx ≤ 45 ∧ Jvm.Cond.code (zx_name k) (zx_bys k) (zx_info k).1 (zx_info k).2.1 ∈ zx_tb ∧ ((zx_name k).cls ≠ "java/lang/invoke/MethodHandle" ∧ (zx_name k).cls ≠ "java/lang/invoke/VarHandle") ∧ Jvm.Cond.initialized (zx_name k).cls ∈ zx_tb
theorem zy_rtW (hex : ∀ j, ex j = .null ∨ ∃ a, ex j = .ref a) {p : Program} {l : Launch} {e : Env} {R : Room} {s : State} {m : MethodId} {args : Array Value} {below : List Frame} {meth : Method} {c : Code} {H : Heap} {locs : List Loc} {mc ms pc' : Nat} {ls : Array Slot} {st : List Value} {as : List Nat} {rv : Option zx_V} {Qc : Array Value → State → Outcome → State → Prop} {free : Addr → Prop} (hx : p.tables.exec = Jvm.exec) (hb : c.code = zx_bys k) (hr : meth.sig.returnType = (zx_info k).2.1) (hlocks : meth.locks = false) (hrt : zy_rt ρ ex as k pc' rv st)
    (hq : ∀ (t : State) (oc : Outcome), t.heap = H → s.WarmedH t.vm → zy_oc ρ ex as rv oc → Qc args s oc t) (hf : ∀ q ∈ locs, free q.base) : W p l e R s m args below meth c H locs mc ms (MQ below Qc args s mc ms free) (F0 m pc' ls st) := by
  cases rv with
  | none =>
    obtain ⟨rfl, h1, h2⟩ := hrt
    exact W.vret hx hb (hr.trans h2) (fun t ht hW => hq t _ ht hW rfl) hf h1 hlocks
  | some a =>
    obtain ⟨v, rfl, h1, h2⟩ := hrt
    rcases h2 with ⟨h2, t, h3, h4⟩ | ⟨h2, h3, h4⟩
    · have zz : ∀ {ty : FieldType} {x : Int32}, v = .int x → (zx_info k).2.1 = some ty → narrow ty (.int x) = .int x → W p l e R s m args below meth c H locs mc ms (MQ below Qc args s mc ms free) (F0 m pc' ls [v]) := by
        intro ty x hv hty hnar
        subst hv
        exact W.zret hx hb (hr.trans hty) hnar (fun t ht hW => hq t _ ht hW ⟨_, rfl, h1⟩) hf h2 hlocks
      have small : ∀ {n : Nat}, a = .inl n → v = .int (Int32.ofNat n) := fun {n} ha => by rw [ha] at h1; exact h1
      rcases h3 with ⟨rfl, h5⟩ | ⟨rfl, h5⟩ | ⟨rfl, h5⟩ | ⟨rfl, h5⟩
      · obtain ⟨x, rfl⟩ := zy_isI h4 h1
        exact W.iret hx hb (hr.trans h5) (fun t ht hW => hq t _ ht hW ⟨_, rfl, h1⟩) hf h2 hlocks
      · have z := zy_fit hex (ty := .boolean) (t := 1) (Or.inr (Or.inl ⟨rfl, rfl⟩)) h4 h1
        rcases a with n | a
        · have hv := small rfl
          exact zz hv h5 (by rw [← hv]; exact z.1)
        · cases h4
      · have z := zy_fit hex (ty := .char) (t := 4) (Or.inr (Or.inr (Or.inr (Or.inr (Or.inl ⟨rfl, rfl⟩))))) h4 h1
        rcases a with n | a
        · have hv := small rfl
          exact zz hv h5 (by rw [← hv]; exact z.1)
        · cases h4
      · have z := zy_fit hex (ty := .byte) (t := 5) (Or.inr (Or.inr (Or.inr (Or.inr (Or.inr ⟨rfl, rfl⟩))))) h4 h1
        rcases a with n | a
        · have hv := small rfl
          exact zz hv h5 (by rw [← hv]; exact z.1)
        · cases h4
    · obtain ⟨x, rfl⟩ := zy_isL h4 h1
      exact W.lret hx hb (hr.trans h3) (fun t ht hW => hq t _ ht hW ⟨_, rfl, h1⟩) hf h2 hlocks
theorem zy_met {rec : zx_Rec} (hr : zy_Snd xa ρ ex D rec) (l : Launch) {d mc ms mx : Nat} {g : zx_G} {w : zx_Wd} {av : zx_L} {vs : List Value} {outs : List zx_O} {as : List Nat} {tys : List (ClassId × FieldType)} {ws : va_W} {sz : Nat} (hM : zk_m k mc ms mx) (h : rec (d, k, 1000000, mc, ms) g w 0 0 av [] 0 = some outs) (hno : ∀ o ∈ outs, ∃ rv, o.2.2 = .inl rv) (hpos : zx_pos mx av 0 = true) (hargs : zy_s ρ ex as (av.map Prod.snd) vs) (hw : zy_w ρ ex tys as w ws) (hg : zy_g ρ g) :
    Met l (zx_name k) (Jvm.Cond.code (zx_name k) (zx_bys k) (zx_info k).1 (zx_info k).2.1 :: zx_tb) ({ frames := d, cells := mc, slots := ms, locals := 64 * d })
      (va_Pc vs (fun U => U.heap.size = sz ∧ va_P D zx_cl ws U.heap ∧ va_K D zx_cl tys U ∧ va_D (fun _ => True) ws ∧ zy_X xa ρ ex (va_A ws sz) U U.heap)) (zy_Qc ρ ex D as outs (va_A ws sz)) mc ms (va_A ws sz) := by
  refine Met.ofW (cc := zx_bys k) (maxL := (zx_info k).1) (ret := (zx_info k).2.1) hM.1 rfl ?_
  intro p e s m args below meth c s₁ B hml hv
  obtain ⟨rfl, hsz, hP, hK, hD0, hX⟩ := hv
  have hts := atoms_spec (ws := Jvm.Cond.code (zx_name k) (zx_bys k) (zx_info k).1 (zx_info k).2.1 :: zx_tb) B.pre
  have hown : s.vm.findClass (zx_name k).cls = some m.cls := findClass_of_methodNamed B.named
  have hin : meth.name = (zx_name k).name := (name_of_methodNamed B.named B.method).1
  subst hsz
  obtain ⟨p1, p2⟩ := zx_pos_ok hX.1 hpos hargs
  have hl := lv_entry vs (n := (zx_info k).1) (by rw [hM.2.1]; omega)
  rw [lg_entry_eq]
  refine hr _ _ _ _ _ _ _ _ _ h (as := as) (tys := tys) (ws := ws) (A := va_A ws s.heap.size) ⟨B.exec, B.bytes, hml, hown, fun x hx => hts x (List.mem_cons_of_mem _ hx), fun q hq => Or.inr hq, hX, Nat.le_refl _, Nat.le_refl _, Nat.le_refl _, Nat.le_refl _, fun z => hin.trans z⟩ ⟨hK, hP, hD0.self, va_S.rf, hw, hg, Nat.zero_le _, Nat.zero_le _⟩ ⟨hl.1, hl.2.1, fun q hq => ?_⟩ trivial ?_
  · obtain ⟨v, v1, v2⟩ := p1 q hq
    exact ⟨v, hl.2.2 _ v1, v2⟩
  · intro o ho as' tys' ws' H' locs' hp
    refine ⟨fun rv hrv cs' sl' pc' ls' st' Dy hrt => ?_, fun cs' sl' lo' st' hrv => ?_⟩
    · refine W.widen (k := mc) (n := ms) Dy.2.2.2.2.2.2.1 Dy.2.2.2.2.2.2.2 ?_
      refine zy_rtW hX.1 B.exec B.bytes B.returns B.notSynchronized hrt (fun t oc ht hW hoc => ⟨⟨o, ho, rv, hrv, as', tys', ws', hp, Dy.2.2.2.2.2.1, va_K.moved hW.alike Dy.1, by rw [ht]; exact Dy.2.1, Dy.2.2.1, Dy.2.2.2.2.1, hoc⟩, Dy.2.2.2.1.F ht⟩) Dy.2.2.2.1.2.2
    · obtain ⟨rv, e⟩ := hno o ho
      rw [e] at hrv
      cases hrv
end ZC
end
section
/-! a call, as the executor does it -/
section ZI
variable {xa : List (Nat × Nat × List zx_V)} {ρ : Nat → Int32} {ex : Nat → Value} {D : va_G} {k pc : Nat}
theorem zx_good {ws : List Jvm.Cond} (h : ∀ w ∈ ws, w ∈ zx_tb) : GoodIn zx_tb ws := fun w hw => ⟨h w hw, good_of_word (List.mem_filter.mp (h w hw)).2⟩
theorem zy_cont {p : Program} {l : Launch} {e : Env} {R : Room} {s : State} {m : MethodId} {args : Array Value} {below : List Frame} {meth : Method} {c : Code} {H : Heap} {locs : List Loc} {cells slots mc ms : Nat} {ls : Array Slot} {st0 rest : List Value} {as : List Nat} {outs : List zx_O} {A0 A1 : Nat → Prop} {a : Array Value} {free : Addr → Prop} {Q : State → Prop}
    (hr : va_Run p l e R s m args below meth c H locs cells slots mc ms (F0 m pc ls st0) rest (zy_Qc ρ ex D as outs A1 a) free) (hS : va_S A0 s.heap H locs) (hA : ∀ q, A1 q → A0 q) (hf : ∀ q, free q → A0 q)
    (kk : ∀ o ∈ outs, ∀ rv, o.2.2 = .inl rv → ∀ (as' : List Nat) (tys' : List (ClassId × FieldType)) (ws' : va_W) (H1 : Heap) (locs1 : List Loc) (v : Option Value), zy_p as as' → zy_g ρ o.1 → va_K D zx_cl tys' s → va_P D zx_cl ws' H1 → va_D A0 ws' → zy_w ρ ex tys' as' o.2.1 ws' → zy_oc ρ ex as' rv (.returned v) → va_S A0 s.heap H1 locs1 → W p l e R s m args below meth c H1 locs1 (cells + mc) (slots + ms) Q (F0 m (pc + 3) ls (v.toList ++ rest))) :
    W p l e R s m args below meth c H locs cells slots Q (F0 m pc ls st0) := by
  intro T hT X
  obtain ⟨v, st₀, t, T', L, h0, X', hL, e1, e2, ⟨⟨o, ho, rv, hrv, as', tys', ws', q1, q2, q3, q4, q5, q6, q7⟩, hz, hk⟩, st⟩ := hr T hT X
  rw [h0] at hz hk
  have hal : t.vm.Alike s.vm := by rw [← e2]; exact X'.warmed.alike.symm
  obtain ⟨t2, a1, b1⟩ := kk o ho rv hrv as' tys' ws' T'.heap (locs ++ L) v q1 q2 (va_K.moved hal q3) (by rw [e1]; exact q4) (q5.weaken (fun _ _ _ z => hA _ z)) q6 q7
    ⟨Nat.le_trans hS.1 (by rw [e1]; exact hz), fun q h1 h2 => by rw [e1, hk q (Nat.lt_of_lt_of_le h1 hS.1) (fun z => h2 (hA q z))]; exact hS.2.1 q h1 h2, fun q hq => by
      rcases List.mem_append.mp hq with h | h
      · exact hS.2.2 q h
      · exact hf _ (hL q h)⟩ T' rfl X'
  exact ⟨t2, st t2 a1, b1⟩
theorem zx_rcv_ok {rk ci : Nat} {w : zx_Wd} {av : zx_L} {x : zx_R} {o : List zx_O} (h : zx_rcv rk ci w av x = some o) : x = some o ∧ (rk = 0 ∨ (rk = 1 ∧ ∃ i a tl, av = (i, .inr (.inr (.inr (.inr (.inl a))))) :: tl ∧ (a = 2 ∨ a = 3)) ∨ (2 ≤ rk ∧ ∃ i a tl fs, av = (i, .inr (.inl (some a))) :: tl ∧ w[a]? = some (.inr (ci, fs)))) := by
  match rk, h with
  | 0, h => exact ⟨h, Or.inl rfl⟩
  | 1, h =>
    match av, h with
    | (i, .inr (.inr (.inr (.inr (.inl a))))) :: tl, h =>
      obtain ⟨h1, h2⟩ := zx_cond (show cond (Nat.beq a 2 || Nat.beq a 3) x none = some o from h)
      refine ⟨h2, Or.inr (Or.inl ⟨rfl, i, a, tl, rfl, ?_⟩)⟩
      rcases Bool.or_eq_true_iff.mp h1 with z | z
      · exact Or.inl (Nat.eq_of_beq_eq_true z)
      · exact Or.inr (Nat.eq_of_beq_eq_true z)
  | n + 2, h =>
    match av, h with
    | (i, .inr (.inl (some a))) :: tl, h =>
      obtain ⟨z, h1, h2⟩ := zx_at_ok (show zx_at w (fun c => match c with
        | .inr q => cond (Nat.beq q.1 ci) x none
        | .inl _ => none) a = some o from h)
      rcases z with z | ⟨cj, fs⟩
      · cases h2
      · obtain ⟨h3, h4⟩ := zx_cond h2
        have e : cj = ci := Nat.eq_of_beq_eq_true h3
        subst e
        exact ⟨h4, Or.inr (Or.inr ⟨by omega, i, a, tl, fs, rfl, h1⟩)⟩
/-- the receiver stands in the heap -/
def zy_rc (rk k' : Nat) (s : State) (H : Heap) (vs : List Value) : Prop := rk = 0 ∨ ∃ q As, vs = .ref q :: As ∧ ∃ cell : Cell, H[q]? = some cell ∧ cell.vm.isStatics = false ∧ s.vm.findClass (zx_name k').cls = some cell.cls
def zy_rm (d mc ms : Nat) : Room := { frames := d, cells := mc, slots := ms, locals := 64 * d }
theorem zh_call {rk ci k' mc ms mx nx : Nat} {is : List Nat} (hn : nx = pc + 3) (hM : zk_m k' mc ms mx) (hcls : rk = 0 ∨ (rk = 1 ∧ (zx_name k').cls = "java/lang/String") ∨ (2 ≤ rk ∧ ∃ T N, zx_cl[ci]? = some ((zx_name k').cls, T, N)))
    (runner : ∀ {p : Program} {l : Launch} {e : Env} {R : Room} {s : State} {m : MethodId} {args : Array Value} {below : List Frame} {meth : Method} {c : Code} {H : Heap} {locs : List Loc} {cells slots : Nat} {ls : Array Slot} {rest vs : List Value} {A : Nat → Prop} {fr : zx_Fr} {d : Nat} {Pc : Array Value → State → Prop} {Qc : Array Value → State → Outcome → State → Prop} {free : Addr → Prop}, fr.2.1 = k → zy_C xa ρ ex p R s m args meth c A fr → fr.1 = d + 1 → ls.size = (zx_info k).1 → vs.length = is.length → zy_rc rk k' s H vs → (rest.map fun v => v.category).sum ≤ 8 →
      Met l (zx_name k') (Jvm.Cond.code (zx_name k') (zx_bys k') (zx_info k').1 (zx_info k').2.1 :: zx_tb) (zy_rm d mc ms) Pc Qc mc ms free → FrameBlind Pc → (∀ U : State, U.heap = H → s.WarmedH U.vm → Pc vs.toArray U) → (cells + mc ≤ R.cells ∧ slots + ms ≤ R.slots) →
      va_Run p l e R s m args below meth c H locs cells slots mc ms (F0 m pc ls (vs.reverse ++ rest)) rest (Qc vs.toArray) free) : zy_Hok xa ρ ex D k pc (zx_call rk ci k' mc ms mx is nx) := by
  intro rec hr fr g w cs sl lo st outs hk h p l e R s m args below meth cd A as tys ws H locs ls sv Q Cx Dy hl hs hret
  subst hn
  obtain ⟨av, r, vv, t, h, rfl, hlen, hst, hav⟩ := zx_args_ok (base := []) h hs trivial
  rw [List.append_nil] at hav
  obtain ⟨hb, h⟩ := zx_cond h
  obtain ⟨hb1, hpos⟩ := Bool.and_eq_true_iff.mp hb
  have hb1 := Nat.le_of_ble_eq_true hb1
  obtain ⟨h, hrc⟩ := zx_rcv_ok h
  rw [zx_n_eq, zx_n_eq] at h
  obtain ⟨hb, h⟩ := zx_cond h
  obtain ⟨hb2, hb3⟩ := Bool.and_eq_true_iff.mp hb
  have hb2 := Nat.le_of_ble_eq_true hb2
  have hb3 := Nat.le_of_ble_eq_true hb3
  have hX := Cx.2.2.2.2.2.2.1
  cases hfd : fr.1 with
  | zero => rw [hfd] at h; cases h
  | succ d =>
    rw [hfd] at h
    have h : (match rec (d, k', 1000000, mc, ms) g w 0 0 av [] 0 with
      | none => none
      | some outs => zx_each outs fun o => (match o.2.2 with
        | .inl none => rec fr o.1 o.2.1 (cs + mc) (sl + ms) lo r (pc + 3)
        | .inl (some v) => rec fr o.1 o.2.1 (cs + mc) (sl + ms) lo (v :: r) (pc + 3)
        | .inr _ => none)) = some outs := h
    cases hrec : rec (d, k', 1000000, mc, ms) g w 0 0 av [] 0 with
    | none => rw [hrec] at h; cases h
    | some o1 =>
      rw [hrec] at h
      have hE := zx_each_ok h
      have hno : ∀ o ∈ o1, ∃ rv, o.2.2 = .inl rv := by
        intro o ho
        obtain ⟨x, hx, -⟩ := hE o ho
        cases hz : o.2.2 with
        | inl rv => exact ⟨rv, rfl⟩
        | inr z => rw [hz] at hx; cases hx
      have hdp := zy_dep hX.1 hst
      have hAA : ∀ q, va_A ws H.size q → A q := by
        intro q hq
        rcases hq with ⟨i, e, hq⟩ | hq
        · exact Dy.2.2.1.2 i _ hq
        · exact Cx.2.2.2.2.2.1 q (Nat.le_trans Dy.2.2.2.1.1 hq)
      have hzrc : zy_rc rk k' s H vv.reverse := by
        rcases hrc with h0 | ⟨h1, i, a, tl, rfl, ha⟩ | ⟨h1, i, a, tl, fs, rfl, ha⟩
        · exact Or.inl h0
        · right
          obtain ⟨b, b1, b2, -⟩ := hX.2.2.2.1 a ha
          have hS := Dy.2.2.2.1
          cases hvv : vv.reverse with
          | nil => rw [hvv] at hav; cases hav
          | cons c1 As =>
            rw [hvv] at hav
            have hc1 : c1 = ex a := hav.1
            refine ⟨b, As, by rw [hc1, b1], ?_⟩
            obtain ⟨cell, c2, c3, c4, -⟩ := b2.kept hS.2.1
            rcases hcls with z | ⟨z1, z2⟩ | ⟨z1, -⟩
            · omega
            · rw [z2]; exact ⟨cell, c2, c3, c4⟩
            · omega
        · right
          cases hvv : vv.reverse with
          | nil => rw [hvv] at hav; cases hav
          | cons c1 As =>
            rw [hvv] at hav
            obtain ⟨q, gs, e1, -, e3, -⟩ := zy_obj Dy.2.2.2.2.1 ha hav.1
            refine ⟨q, As, by rw [e1], ?_⟩
            rcases hcls with z | ⟨z1, z2⟩ | ⟨z1, T, N, hcl⟩
            · omega
            · omega
            · exact va_recv Dy.1 Dy.2.1 hcl e3
      have hMet := zy_met hr l (sz := H.size) hM hrec hno hpos hav Dy.2.2.2.2.1 Dy.2.2.2.2.2.1
      have hrun := runner (c := cd) (p := p) (e := e) (below := below) (locs := locs) (cells := cs) (slots := sl) (ls := ls) (rest := t) (vs := vv.reverse) (R := R) (args := args) (meth := meth) hk Cx hfd (by rw [← hk]; exact hl.1) (by rw [List.length_reverse]; exact hlen) hzrc (by rw [hdp]; exact hb1) hMet
        (fun a U g mk q => by
          obtain ⟨q0, q1, q2, q3, q4, q5⟩ := q
          exact ⟨q0, q1, q2, va_K.moved (u := U) (U := U.calling g mk a) (Vm.Alike.refl U.vm) q3, q4, q5.call g mk a⟩)
        (fun U hU hW => ⟨rfl, by rw [hU], by rw [hU]; exact Dy.2.1, va_K.moved hW.alike Dy.1, Dy.2.2.1.weaken (fun _ _ _ _ => trivial), by rw [hU]; exact hX.to hW Dy.2.2.2.1.2.1 hAA⟩)
        ⟨Nat.le_trans hb2 Cx.2.2.2.2.2.2.2.2.2.1, Nat.le_trans hb3 Cx.2.2.2.2.2.2.2.2.2.2.1⟩
      rw [List.reverse_reverse] at hrun
      refine zy_cont hrun Dy.2.2.2.1 hAA hAA (fun o ho rv hrv as' tys' ws' H1 locs1 v q1 q2 q3 q4 q5 q6 q7 q8 => ?_)
      obtain ⟨x, hx, hsub⟩ := hE o ho
      have Dy' : zy_D ρ ex D s A fr o.1 o.2.1 (cs + mc) (sl + ms) as' tys' ws' H1 locs1 := ⟨q3, q4, q5, q8, q6, q2, hb2, hb3⟩
      rw [hrv] at hx
      cases rv with
      | none =>
        have hv : v = none := by
          have q7 : Outcome.returned v = Outcome.returned none := q7
          cases q7; rfl
        subst hv
        exact hr _ _ _ _ _ _ _ _ _ hx Cx Dy' (hl.mono q1) (hst.mono q1) (hret.mono q1 hsub)
      | some a =>
        obtain ⟨u, u1, u2⟩ := q7
        cases u1
        exact hr _ _ _ _ _ _ _ _ _ hx Cx Dy' (hl.mono q1) ⟨u2, hst.mono q1⟩ (hret.mono q1 hsub)
theorem zk_m.R {k' mc ms mx d : Nat} {R : Room} {p : Program} {s : State} {m : MethodId} {args : Array Value} {meth : Method} {c : Code} {A : Nat → Prop} {fr : zx_Fr} (hM : zk_m k' mc ms mx) (C : zy_C xa ρ ex p R s m args meth c A fr) (hd : fr.1 = d + 1) : (zy_rm d mc ms).frames + 1 ≤ R.frames ∧ 8 + ((zx_info k').1 + 11) + (zy_rm d mc ms).locals ≤ R.locals := by
  have h1 := C.2.2.2.2.2.2.2.1
  have h2 := C.2.2.2.2.2.2.2.2.1
  have h3 := hM.2.1
  have h4 := hM.2.2.1
  refine ⟨by show d + 1 ≤ _; omega, by show 8 + (_ + 11) + 64 * d ≤ _; omega⟩
theorem zh_virt {rk ci k' mc ms mx nx n idx : Nat} {is : List Nat} (hn : nx = pc + 3) (hM : zk_m k' mc ms mx) (hrk : rk ≠ 0) (hcls : rk = 0 ∨ (rk = 1 ∧ (zx_name k').cls = "java/lang/String") ∨ (2 ≤ rk ∧ ∃ T N, zx_cl[ci]? = some ((zx_name k').cls, T, N)))
    (hdesc : (parseMethodDescriptor (zx_name k').desc).map (fun d => d.parameters.length) = some n) (his : is.length = n + 1) (h1 : Jvm.Cond.methodLink (zx_name k).cls idx (zx_name k') ∈ zx_tb) (h2 : Jvm.Cond.instanceMethod (zx_name k') ∈ zx_tb) (h3 : Jvm.Cond.selects (zx_name k').cls (zx_name k') (zx_name k') ∈ zx_tb) (hd : decode (zx_bys k) pc = .ok (.invokevirtual idx, 3)) : zy_Hok xa ρ ex D k pc (zx_call rk ci k' mc ms mx is nx) := by
  refine zh_call hn hM hcls ?_
  intro p l e R s m args below meth c H locs cells slots ls rest vs A fr d Pc Qc free hk C hfd hls hvs hrc hrest hMet hbl hpre hf
  subst hk
  rcases hrc with z | ⟨q, As, rfl, hcell⟩
  · exact absurd z hrk
  · have hg : ∀ w ∈ wsV (zx_name fr.2.1).cls idx (zx_name k').cls (zx_name k') (Jvm.Cond.code (zx_name k') (zx_bys k') (zx_info k').1 (zx_info k').2.1 :: zx_tb), w ∈ zx_tb := by
      intro w hw
      rcases List.mem_append.mp hw with hw | hw
      · rcases List.mem_cons.mp hw with rfl | hw
        · exact h1
        rcases List.mem_cons.mp hw with rfl | hw
        · exact h2
        rcases List.mem_cons.mp hw with rfl | hw
        · exact h3
        rcases List.mem_cons.mp hw with rfl | hw
        · exact hM.2.2.2.2.2
        · cases hw
      · rcases List.mem_cons.mp hw with rfl | hw
        · exact hM.2.2.2.1
        · exact hw
    have hlen : As.length = n := by
      rw [List.length_cons] at hvs; omega
    refine va_runV (own := (zx_name fr.2.1).cls) (C := (zx_name k').cls) (As := As) (rest := rest) (b := q) ⟨C.1, C.2.1, C.2.2.1, C.2.2.2.1, C.2.2.2.2.1⟩ hMet (cwV n C.2.2.2.2.1 (zx_good hg) rfl rfl rfl ⟨rfl, hM.2.2.2.2.1.1, hM.2.2.2.2.1.2, hdesc⟩ (hM.R C hfd)) ⟨hbl, hcell, hpre⟩ rfl hlen hls ?_ (lv_room hrest) hd hf
    show (Value.ref q :: As).reverse ++ rest = _
    rw [List.reverse_cons, List.append_assoc]
    rfl
theorem zh_stat {ci k' mc ms mx nx n idx : Nat} {is : List Nat} (hn : nx = pc + 3) (hM : zk_m k' mc ms mx)
    (hdesc : (parseMethodDescriptor (zx_name k').desc).map (fun d => d.parameters.length) = some n) (his : is.length = n) (h1 : Jvm.Cond.methodLink (zx_name k).cls idx (zx_name k') ∈ zx_tb) (h2 : Jvm.Cond.static (zx_name k') ∈ zx_tb) (hd : decode (zx_bys k) pc = .ok (.invokestatic idx, 3)) : zy_Hok xa ρ ex D k pc (zx_call 0 ci k' mc ms mx is nx) := by
  refine zh_call hn hM (Or.inl rfl) ?_
  intro p l e R s m args below meth c H locs cells slots ls rest vs A fr d Pc Qc free hk C hfd hls hvs hrc hrest hMet hbl hpre hf
  subst hk
  have hg : ∀ w ∈ va_wsS (zx_name fr.2.1).cls idx (zx_name k') (Jvm.Cond.code (zx_name k') (zx_bys k') (zx_info k').1 (zx_info k').2.1 :: zx_tb), w ∈ zx_tb := by
    intro w hw
    rcases List.mem_append.mp hw with hw | hw
    · rcases List.mem_cons.mp hw with rfl | hw
      · exact h1
      rcases List.mem_cons.mp hw with rfl | hw
      · exact h2
      rcases List.mem_cons.mp hw with rfl | hw
      · exact hM.2.2.2.2.2
      · cases hw
    · rcases List.mem_cons.mp hw with rfl | hw
      · exact hM.2.2.2.1
      · exact hw
  exact va_runS (own := (zx_name fr.2.1).cls) (As := vs) (rest := rest) ⟨C.1, C.2.1, C.2.2.1, C.2.2.2.1, C.2.2.2.2.1⟩ hMet (va_cwS n C.2.2.2.2.1 (zx_good hg) rfl rfl rfl ⟨hM.2.2.2.2.1.1, hM.2.2.2.2.1.2, hdesc⟩ (hM.R C hfd)) ⟨hbl, hpre⟩ rfl (by omega) hls rfl (lv_room hrest) hd hf
theorem zh_nest {ci k' mc ms mx nx n idx : Nat} {is : List Nat} (hn : nx = pc + 3) (hM : zk_m k' mc ms mx)
    (hdesc : (parseMethodDescriptor (zx_name k').desc).map (fun d => d.parameters.length) = some n) (his : is.length = n) (h0 : (zx_name k).cls = "DeckChairs$Hinge") (hi : idx = 18) (h1 : zx_name k' = ⟨"DeckChairs", "firstGreatest", "([II)I"⟩) (h2 : Jvm.Cond.static (zx_name k') ∈ zx_tb) (hd : decode (zx_bys k) pc = .ok (.invokestatic idx, 3)) : zy_Hok xa ρ ex D k pc (zx_call 0 ci k' mc ms mx is nx) := by
  refine zh_call hn hM (Or.inl rfl) ?_
  intro p l e R s m args below meth c H locs cells slots ls rest vs A fr d Pc Qc free hk C hfd hls hvs hrc hrest hMet hbl hpre hf
  subst hk
  have hts := C.2.2.2.2.1
  have hg : ∀ w ∈ (Jvm.Cond.code (zx_name k') (zx_bys k') (zx_info k').1 (zx_info k').2.1 :: zx_tb), w ∈ zx_tb := by
    intro w hw
    rcases List.mem_cons.mp hw with rfl | hw
    · exact hM.2.2.2.1
    · exact hw
  have hN : va_Nw (.methodLinkNest (zx_name fr.2.1).cls idx (zx_name k') "DeckChairs") s := by
    rw [h0, hi, h1]; exact C.2.2.2.2.2.2.1.2.2.2.2.2.2
  exact va_runSN (own := (zx_name fr.2.1).cls) (host := "DeckChairs") (As := vs) (rest := rest) ⟨C.1, C.2.1, C.2.2.1, C.2.2.2.1, C.2.2.2.2.1⟩ hMet ⟨va_cnB n hts (zx_good hg) rfl rfl rfl hN (hts _ hM.2.2.2.2.2) ⟨hM.2.2.2.2.1.1, hM.2.2.2.2.1.2, hdesc⟩ (hM.R C hfd), hts _ h2, trivial⟩ ⟨hbl, hpre⟩ rfl (by omega) hls rfl (lv_room hrest) hd hf
theorem zh_spec {rk ci k' mc ms mx nx n idx : Nat} {is : List Nat} (hn : nx = pc + 3) (hM : zk_m k' mc ms mx) (hrk : rk ≠ 0) (hcls : rk = 0 ∨ (rk = 1 ∧ (zx_name k').cls = "java/lang/String") ∨ (2 ≤ rk ∧ ∃ T N, zx_cl[ci]? = some ((zx_name k').cls, T, N)))
    (hdesc : (parseMethodDescriptor (zx_name k').desc).map (fun d => d.parameters.length) = some n) (his : is.length = n + 1) (hret0 : (zx_info k').2.1 = none) (hini : (zx_name k').name = "<init>") (h1 : Jvm.Cond.methodLink (zx_name k).cls idx (zx_name k') ∈ zx_tb) (h2 : Jvm.Cond.instanceMethod (zx_name k') ∈ zx_tb) (hd : decode (zx_bys k) pc = .ok (.invokespecial idx, 3)) : zy_Hok xa ρ ex D k pc (zx_call rk ci k' mc ms mx is nx) := by
  refine zh_call hn hM hcls ?_
  intro p l e R s m args below meth c H locs cells slots ls rest vs A fr d Pc Qc free hk C hfd hls hvs hrc hrest hMet hbl hpre hf
  subst hk
  rcases hrc with z | ⟨q, As, rfl, hcell⟩
  · exact absurd z hrk
  · have hts := C.2.2.2.2.1
    have hMc := hM.2.2.2.1
    rw [hret0] at hMet hMc
    have hg : ∀ w ∈ (Jvm.Cond.code (zx_name k') (zx_bys k') (zx_info k').1 none :: zx_tb), w ∈ zx_tb := by
      intro w hw
      rcases List.mem_cons.mp hw with rfl | hw
      · exact hMc
      · exact hw
    have hlen : As.length = n := by
      rw [List.length_cons] at hvs; omega
    refine va_runI (own := (zx_name fr.2.1).cls) (As := As) (rest := rest) (b := q) ⟨C.1, C.2.1, C.2.2.1, C.2.2.2.1, C.2.2.2.2.1⟩ hMet (cwI n hts (zx_good hg) rfl rfl rfl (hts _ hM.2.2.2.2.2) (hts _ h1) (hts _ h2) hini ⟨hM.2.2.2.2.1.1, hM.2.2.2.2.1.2, hdesc⟩ (hM.R C hfd)) ⟨hbl, hpre⟩ rfl hlen hls ?_ (lv_room hrest) hd hf
    show (Value.ref q :: As).reverse ++ rest = _
    rw [List.reverse_cons, List.append_assoc]
    rfl
theorem zh_mmx {nx idx : Nat} (h1 : Jvm.Cond.methodLink (zx_name k).cls idx Lib.Math.max.name ∈ zx_tb) (h2 : Jvm.Cond.static Lib.Math.max.name ∈ zx_tb) (h3 : Jvm.Cond.code Lib.Math.max.name Lib.Math.max.code 2 (some .int) ∈ zx_tb) (h4 : Jvm.Cond.initialized "java/lang/Math" ∈ zx_tb) (hd : decode (zx_bys k) pc = .ok (.invokestatic idx, 3)) (hn : nx = pc + 3) : zy_Hok xa ρ ex D k pc (zx_mmx nx) := by
  intro rec hr fr g w cs sl lo st outs hk h p l e R s m args below meth cd A as tys ws H locs ls sv Q Cx Dy hl hs hret
  subst hk; subst hn
  have key : ∀ {b a : Nat} {r : List zx_V} {vb va : Value} {t : List Value}, zy_v ρ ex as (.inl b) vb → zy_v ρ ex as (.inl a) va → zy_s ρ ex as r t → ∀ (t0 : Bool), (t0 = true ↔ zy_cp .lt (Int32.ofNat a) (Int32.ofNat b)) → cond (Nat.ble (zx_dep r) 8 && Nat.ble 1 fr.1) (cond t0 (rec fr g w cs sl lo (.inl b :: r) (pc + 3)) (rec fr g w cs sl lo (.inl a :: r) (pc + 3))) none = some outs → W p l e R s m args below meth cd H locs cs sl Q (F0 m pc ls (vb :: va :: t)) := by
    intro b a r vb va t e1 e2 e3 t0 hi hh
    obtain ⟨hb, hh⟩ := zx_cond hh
    obtain ⟨hb1, hb2⟩ := Bool.and_eq_true_iff.mp hb
    have hb1 := Nat.le_of_ble_eq_true hb1
    have hb2 := Nat.le_of_ble_eq_true hb2
    have hts := Cx.2.2.2.2.1
    have hdp := zy_dep Cx.2.2.2.2.2.2.1.1 e3
    have hR := Cx.2.2.2.2.2.2.2.2.1
    have hml : cd.maxLocals = ls.size := by rw [Cx.2.2.1]; exact hl.1.symm
    have hlo : (t.map fun v => v.category).sum + 13 ≤ R.locals := by rw [hdp]; omega
    have hc1 := Nat.le_trans Dy.2.2.2.2.2.2.1 Cx.2.2.2.2.2.2.2.2.2.1
    have hc2 := Nat.le_trans Dy.2.2.2.2.2.2.2 Cx.2.2.2.2.2.2.2.2.2.2.1
    rw [show vb = _ from e1, show va = _ from e2]
    refine va_mmax (own := (zx_name fr.2.1).cls) Cx.1 Cx.2.1 hml Cx.2.2.2.1 (hts _ h1) (hts _ h2) (hts _ h4) (hts _ h3) (Nat.le_trans hb2 Cx.2.2.2.2.2.2.2.1) hlo hc1 hc2 hd ?_
    cases t0 with
    | true =>
      rw [if_pos (show Int32.ofNat a < Int32.ofNat b from hi.mp rfl)]
      exact hr _ _ _ _ _ _ _ _ _ hh Cx Dy hl ⟨rfl, e3⟩ hret
    | false =>
      rw [if_neg (fun z : Int32.ofNat a < Int32.ofNat b => by have z := hi.mpr z; cases z)]
      exact hr _ _ _ _ _ _ _ _ _ hh Cx Dy hl ⟨rfl, e3⟩ hret
  match st, sv, hs, h with
  | .inl b :: .inl a :: r, vb :: va :: t, ⟨e1, e2, e3⟩, h => exact key e1 e2 e3 (zx_cmp .lt a b) (zy_cmp .lt a b) h
  | .inr _ :: _, _, _, h => cases h
  | .inl _ :: .inr _ :: r, _, _, h => cases h
  | [.inl _], _, _, h => cases h
theorem zh_mmn {nx idx : Nat} (h1 : Jvm.Cond.methodLink (zx_name k).cls idx Lib.Math.min.name ∈ zx_tb) (h2 : Jvm.Cond.static Lib.Math.min.name ∈ zx_tb) (h3 : Jvm.Cond.code Lib.Math.min.name Lib.Math.min.code 2 (some .int) ∈ zx_tb) (h4 : Jvm.Cond.initialized "java/lang/Math" ∈ zx_tb) (hd : decode (zx_bys k) pc = .ok (.invokestatic idx, 3)) (hn : nx = pc + 3) : zy_Hok xa ρ ex D k pc (zx_mmn nx) := by
  intro rec hr fr g w cs sl lo st outs hk h p l e R s m args below meth cd A as tys ws H locs ls sv Q Cx Dy hl hs hret
  subst hk; subst hn
  have key : ∀ {b a : Nat} {r : List zx_V} {vb va : Value} {t : List Value}, zy_v ρ ex as (.inl b) vb → zy_v ρ ex as (.inl a) va → zy_s ρ ex as r t → ∀ (t0 : Bool), (t0 = true ↔ zy_cp .lt (Int32.ofNat b) (Int32.ofNat a)) → cond (Nat.ble (zx_dep r) 8 && Nat.ble 1 fr.1) (cond t0 (rec fr g w cs sl lo (.inl b :: r) (pc + 3)) (rec fr g w cs sl lo (.inl a :: r) (pc + 3))) none = some outs → W p l e R s m args below meth cd H locs cs sl Q (F0 m pc ls (vb :: va :: t)) := by
    intro b a r vb va t e1 e2 e3 t0 hi hh
    obtain ⟨hb, hh⟩ := zx_cond hh
    obtain ⟨hb1, hb2⟩ := Bool.and_eq_true_iff.mp hb
    have hb1 := Nat.le_of_ble_eq_true hb1
    have hb2 := Nat.le_of_ble_eq_true hb2
    have hts := Cx.2.2.2.2.1
    have hdp := zy_dep Cx.2.2.2.2.2.2.1.1 e3
    have hR := Cx.2.2.2.2.2.2.2.2.1
    have hml : cd.maxLocals = ls.size := by rw [Cx.2.2.1]; exact hl.1.symm
    have hlo : (t.map fun v => v.category).sum + 13 ≤ R.locals := by rw [hdp]; omega
    have hc1 := Nat.le_trans Dy.2.2.2.2.2.2.1 Cx.2.2.2.2.2.2.2.2.2.1
    have hc2 := Nat.le_trans Dy.2.2.2.2.2.2.2 Cx.2.2.2.2.2.2.2.2.2.2.1
    rw [show vb = _ from e1, show va = _ from e2]
    refine va_mmin (own := (zx_name fr.2.1).cls) Cx.1 Cx.2.1 hml Cx.2.2.2.1 (hts _ h1) (hts _ h2) (hts _ h4) (hts _ h3) (Nat.le_trans hb2 Cx.2.2.2.2.2.2.2.1) hlo hc1 hc2 hd ?_
    cases t0 with
    | true =>
      rw [if_pos (show Int32.ofNat b < Int32.ofNat a from hi.mp rfl)]
      exact hr _ _ _ _ _ _ _ _ _ hh Cx Dy hl ⟨rfl, e3⟩ hret
    | false =>
      rw [if_neg (fun z : Int32.ofNat b < Int32.ofNat a => by have z := hi.mpr z; cases z)]
      exact hr _ _ _ _ _ _ _ _ _ hh Cx Dy hl ⟨rfl, e3⟩ hret
  match st, sv, hs, h with
  | .inl b :: .inl a :: r, vb :: va :: t, ⟨e1, e2, e3⟩, h => exact key e1 e2 e3 (zx_cmp .lt b a) (zy_cmp .lt b a) h
  | .inr _ :: _, _, _, h => cases h
  | .inl _ :: .inr _ :: r, _, _, h => cases h
  | [.inl _], _, _, h => cases h
end ZI
end
section
/-! what is checked of a table's row, and that the executor is right over checked rows -/
noncomputable def zx_w (i : Nat) (w : Jvm.Cond) : Bool := decide (lw_tbl[i]? = some w) && goodWord w
theorem zx_w_ok {i : Nat} {w : Jvm.Cond} (h : zx_w i w = true) : w ∈ zx_tb := by
  obtain ⟨h1, h2⟩ := Bool.and_eq_true_iff.mp h
  exact List.mem_filter.mpr ⟨List.mem_of_getElem? (of_decide_eq_true h1), h2⟩
def zc1 (a : List Nat) (f : Nat → Bool) : Bool := match a with
  | i :: _ => f i
  | _ => false
def zc2 (a : List Nat) (f : Nat → Nat → Bool) : Bool := match a with
  | i :: j :: _ => f i j
  | _ => false
def zc3 (a : List Nat) (f : Nat → Nat → Nat → Bool) : Bool := match a with
  | i :: j :: k :: _ => f i j k
  | _ => false
def zx_tkB (ty : FieldType) (t : Nat) : Bool := match t, ty with
  | 0, .int => true
  | 1, .boolean => true
  | 2, .object _ => true
  | 2, .array _ => true
  | 3, .long => true
  | _, _ => false
theorem zx_tkB_ok {ty : FieldType} {t : Nat} (h : zx_tkB ty t = true) : zx_tk ty t := by
  unfold zx_tkB at h
  split at h
  · exact Or.inl ⟨rfl, rfl⟩
  · exact Or.inr (Or.inl ⟨rfl, rfl⟩)
  · exact Or.inr (Or.inr (Or.inl ⟨rfl, Or.inl ⟨_, rfl⟩⟩))
  · exact Or.inr (Or.inr (Or.inl ⟨rfl, Or.inr ⟨_, rfl⟩⟩))
  · exact Or.inr (Or.inr (Or.inr (Or.inl ⟨rfl, rfl⟩)))
  · cases h
def zx_rkB (r : Option FieldType) (t : Nat) : Bool := match t, r with
  | 0, some .int => true
  | 1, some .boolean => true
  | 4, some .char => true
  | 5, some .byte => true
  | _, _ => false
theorem zx_rkB_ok {r : Option FieldType} {t : Nat} (h : zx_rkB r t = true) : zx_rk r t := by
  unfold zx_rkB at h
  split at h
  · exact Or.inl ⟨rfl, rfl⟩
  · exact Or.inr (Or.inl ⟨rfl, rfl⟩)
  · exact Or.inr (Or.inr (Or.inl ⟨rfl, rfl⟩))
  · exact Or.inr (Or.inr (Or.inr ⟨rfl, rfl⟩))
  · cases h
noncomputable def zx_mB (k mx p4 : Nat) : Bool := decide (plainName (zx_name k).cls = true ∧ (zx_info k).1 = mx ∧ mx ≤ 45 ∧ (zx_name k).cls ≠ "java/lang/invoke/MethodHandle" ∧ (zx_name k).cls ≠ "java/lang/invoke/VarHandle") && (zx_w (zx_info k).2.2.2.2 (.code (zx_name k) (zx_bys k) (zx_info k).1 (zx_info k).2.1) && zx_w p4 (.initialized (zx_name k).cls))
theorem zx_mB_ok {k mc ms mx p4 : Nat} (h : zx_mB k mx p4 = true) : zk_m k mc ms mx := by
  obtain ⟨h1, h⟩ := Bool.and_eq_true_iff.mp h
  obtain ⟨h2, h3⟩ := Bool.and_eq_true_iff.mp h
  obtain ⟨e1, e2, e3, e4, e5⟩ := of_decide_eq_true h1
  exact ⟨e1, e2, e3, zx_w_ok h2, ⟨e4, e5⟩, zx_w_ok h3⟩
noncomputable def zx_clB (rk ci k : Nat) : Bool := match rk with
  | 0 => false
  | 1 => decide ((zx_name k).cls = "java/lang/String")
  | _ => (match zx_cl[ci]? with
    | some (C, _, _) => decide (C = (zx_name k).cls)
    | none => false)
theorem zx_clB_ok {rk ci k : Nat} (h : zx_clB rk ci k = true) : rk ≠ 0 ∧ (rk = 0 ∨ (rk = 1 ∧ (zx_name k).cls = "java/lang/String") ∨ (2 ≤ rk ∧ ∃ T N, zx_cl[ci]? = some ((zx_name k).cls, T, N))) := by
  match rk, h with
  | 1, h => exact ⟨by omega, Or.inr (Or.inl ⟨rfl, of_decide_eq_true h⟩)⟩
  | n + 2, h =>
    refine ⟨by omega, Or.inr (Or.inr ⟨by omega, ?_⟩)⟩
    have h : (match zx_cl[ci]? with
    | some (C, _, _) => decide (C = (zx_name k).cls)
    | none => false) = true := h
    cases hc : zx_cl[ci]? with
    | none => rw [hc] at h; cases h
    | some q =>
      obtain ⟨C, T, N⟩ := q
      rw [hc] at h
      have e : C = (zx_name k).cls := of_decide_eq_true h
      subst e
      exact ⟨T, N, rfl⟩
def zx_np (k : MethodName) (n : Nat) : Bool := decide ((parseMethodDescriptor k.desc).map (fun d => d.parameters.length) = some n)
/-- a call's row: its kind by the instruction (1 virtual, 2 static, 3 special) -/
noncomputable def zx_okC (k pc vk idx nx : Nat) (a : List Nat) : Bool := decide (nx = pc + 3) && (match a with
  | 0 :: p :: _ => decide (vk = 3) && zx_w p (.methodLink (zx_name k).cls idx objectInit)
  | 1 :: p :: _ => decide (vk = 2) && zx_w p (.methodLink (zx_name k).cls idx arraycopyName)
  | 4 :: p1 :: p2 :: p3 :: p4 :: _ => decide (vk = 2) && (zx_w p1 (.methodLink (zx_name k).cls idx Lib.Math.max.name) && (zx_w p2 (.static Lib.Math.max.name) && (zx_w p3 (.code Lib.Math.max.name Lib.Math.max.code 2 (some .int)) && zx_w p4 (.initialized "java/lang/Math"))))
  | 5 :: p1 :: p2 :: p3 :: p4 :: _ => decide (vk = 2) && (zx_w p1 (.methodLink (zx_name k).cls idx Lib.Math.min.name) && (zx_w p2 (.static Lib.Math.min.name) && (zx_w p3 (.code Lib.Math.min.name Lib.Math.min.code 2 (some .int)) && zx_w p4 (.initialized "java/lang/Math"))))
  | 2 :: rk :: ci :: k' :: _ :: _ :: p1 :: p2 :: p3 :: p4 :: mx :: is => zx_mB k' mx p4 && (zx_w p1 (.methodLink (zx_name k).cls idx (zx_name k')) && (match vk with
    | 1 => zx_clB rk ci k' && (zx_w p2 (.instanceMethod (zx_name k')) && (zx_w p3 (.selects (zx_name k').cls (zx_name k') (zx_name k')) && (match is with | _ :: r => zx_np (zx_name k') r.length | _ => false)))
    | 2 => decide (rk = 0) && (zx_w p2 (.static (zx_name k')) && zx_np (zx_name k') is.length)
    | _ => zx_clB rk ci k' && (decide (vk = 3 ∧ (zx_info k').2.1 = none ∧ (zx_name k').name = "<init>") && (zx_w p2 (.instanceMethod (zx_name k')) && (match is with | _ :: r => zx_np (zx_name k') r.length | _ => false)))))
  | 3 :: rk :: _ :: k' :: _ :: _ :: _ :: p2 :: _ :: p4 :: mx :: is => zx_mB k' mx p4 && (decide (vk = 2 ∧ rk = 0 ∧ (zx_name k).cls = "DeckChairs$Hinge" ∧ idx = 18 ∧ zx_name k' = ⟨"DeckChairs", "firstGreatest", "([II)I"⟩) && (zx_w p2 (.static (zx_name k')) && zx_np (zx_name k') is.length))
  | _ => false)
noncomputable def zx_okI (k pc : Nat) (i : Instr) (len nx : Nat) (aux : List Nat) : Bool := match i with
  | .aload_n j => zc1 aux fun i => decide (j.val = i ∧ len = 1 ∧ nx = pc + 1)
  | .aload j => zc1 aux fun i => decide (j = i ∧ len = 2 ∧ nx = pc + 2)
  | .iload_n j => zc1 aux fun i => decide (j.val = i ∧ len = 1 ∧ nx = pc + 1)
  | .iload j => zc1 aux fun i => decide (j = i ∧ len = 2 ∧ nx = pc + 2)
  | .lload_n j => zc1 aux fun i => decide (j.val = i ∧ len = 1 ∧ nx = pc + 1)
  | .istore_n j => zc1 aux fun i => decide (j.val = i ∧ len = 1 ∧ nx = pc + 1 ∧ i < (zx_info k).1)
  | .istore j => zc1 aux fun i => decide (j = i ∧ len = 2 ∧ nx = pc + 2 ∧ i < (zx_info k).1)
  | .astore_n j => zc1 aux fun i => decide (j.val = i ∧ len = 1 ∧ nx = pc + 1 ∧ i < (zx_info k).1)
  | .lstore_n j => zc1 aux fun i => decide (j.val = i ∧ len = 1 ∧ nx = pc + 1 ∧ i + 1 < (zx_info k).1)
  | .iconst v => zc1 aux fun n => decide (Int32.ofInt v = Int32.ofNat n ∧ len = 1 ∧ nx = pc + 1)
  | .bipush v => zc1 aux fun n => decide ((Int8.ofInt v).toInt32 = Int32.ofNat n ∧ len = 2 ∧ nx = pc + 2)
  | .sipush v => zc1 aux fun n => decide ((Int16.ofInt v).toInt32 = Int32.ofNat n ∧ len = 3 ∧ nx = pc + 3)
  | .lconst v => zc1 aux fun n => decide (Int64.ofNat v.val = Int64.ofNat n ∧ len = 1 ∧ nx = pc + 1)
  | .ldc idx => decide (len = 2 ∧ nx = pc + 2) && zc3 aux fun t n p => cond (Nat.beq t 0) (zx_w p (.constant (zx_name k).cls idx (Int32.ofNat n))) (decide ((zx_name k).cls = "DeckChairs$Tokens" ∧ ((idx = 25 ∧ n = 2) ∨ (idx = 27 ∧ n = 3))))
  | .ldc_w idx => decide (len = 3 ∧ nx = pc + 3) && zc3 aux fun t n p => cond (Nat.beq t 0) (zx_w p (.constant (zx_name k).cls idx (Int32.ofNat n))) false
  | .ldc2_w idx => decide (len = 3 ∧ nx = pc + 3) && zc2 aux fun n p => zx_w p (.constantLong (zx_name k).cls idx (Int64.ofNat n))
  | .iinc j v => zc2 aux fun i c => decide (j = i ∧ Int32.ofInt v = Int32.ofNat c ∧ len = 3 ∧ nx = pc + 3 ∧ i < (zx_info k).1)
  | .iadd => decide (len = 1 ∧ nx = pc + 1)
  | .isub => decide (len = 1 ∧ nx = pc + 1)
  | .imul => decide (len = 1 ∧ nx = pc + 1)
  | .iand => decide (len = 1 ∧ nx = pc + 1)
  | .ior => decide (len = 1 ∧ nx = pc + 1)
  | .ixor => decide (len = 1 ∧ nx = pc + 1)
  | .ishl => decide (len = 1 ∧ nx = pc + 1)
  | .ishr => decide (len = 1 ∧ nx = pc + 1)
  | .iushr => decide (len = 1 ∧ nx = pc + 1)
  | .idiv => decide (len = 1 ∧ nx = pc + 1)
  | .irem => decide (len = 1 ∧ nx = pc + 1)
  | .ladd => decide (len = 1 ∧ nx = pc + 1)
  | .lmul => decide (len = 1 ∧ nx = pc + 1)
  | .i2l => decide (len = 1 ∧ nx = pc + 1)
  | .i2b => decide (len = 1 ∧ nx = pc + 1)
  | .i2c => decide (len = 1 ∧ nx = pc + 1)
  | .dup => decide (len = 1 ∧ nx = pc + 1)
  | .pop => decide (len = 1 ∧ nx = pc + 1)
  | .dup2 => decide (len = 1 ∧ nx = pc + 1)
  | .ifCond _ off => zc1 aux fun t => decide ((pc : Int) + off = (t : Int) ∧ len = 3 ∧ nx = pc + 3)
  | .if_icmp _ off => zc1 aux fun t => decide ((pc : Int) + off = (t : Int) ∧ len = 3 ∧ nx = pc + 3)
  | .goto off => zc1 aux fun t => decide ((pc : Int) + off = (t : Int) ∧ len = 3)
  | .tableswitch dflt lo hi offs => (match aux with
    | d :: ts => decide ((pc : Int) + dflt = (d : Int) ∧ hi = lo + ts.length - 1 ∧ offs.toList.map (fun o => (pc : Int) + o) = ts.map (fun t : Nat => (t : Int)))
    | _ => false)
  | .getfield idx => decide (len = 3 ∧ nx = pc + 3) && zc3 aux fun t ci j => cond (Nat.beq t 0) (match zx_cl[ci]? with
      | some (_, T, N) => decide (j < N) && (zc1 (aux.drop 3) fun p => zx_w p (.fieldLink (zx_name k).cls idx (T j).1 (T j).2.1 (T j).2.2.1))
      | none => false) (cond (Nat.beq ci 0) (zx_w j (.fieldLink (zx_name k).cls idx "java/lang/String" "value" "[B")) (zx_w j (.fieldLink (zx_name k).cls idx "java/lang/String" "coder" "B")))
  | .putfield idx => decide (len = 3 ∧ nx = pc + 3) && zc3 aux fun ci j t => (match zx_cl[ci]? with
      | some (_, T, N) => decide (j < N) && ((zc1 (aux.drop 3) fun p => zx_w p (.fieldLink (zx_name k).cls idx (T j).1 (T j).2.1 (T j).2.2.1)) && ((match parseFieldDescriptor (T j).2.2.1 with | some ty => zx_tkB ty t | none => false) && decide ((T j).2.2.2 = false ∨ ((T j).2.2.2 = true ∧ (zx_name k).name = "<init>" ∧ (T j).1 = (zx_name k).cls))))
      | none => false)
  | .getstatic idx => decide (len = 3 ∧ nx = pc + 3) && zc2 aux fun t p => cond (Nat.beq t 0) (zx_w p (.fieldLink (zx_name k).cls idx "DeckChairs$Hinge" "ADDED" "[I")) (cond (Nat.beq t 1) (zx_w p (.fieldLink (zx_name k).cls idx "java/lang/String" "COMPACT_STRINGS" "Z")) (zx_w p (.fieldLink (zx_name k).cls idx "jdk/internal/util/Preconditions" "SIOOBE_FORMATTER" "Ljava/util/function/BiFunction;")))
  | .new idx => decide (len = 3 ∧ nx = pc + 3) && (match aux with
    | ci :: N :: p1 :: p2 :: p3 :: _ => (match zx_cl[ci]? with
      | some (C, _, N') => decide (N' = N) && (zx_w p1 (.classLink (zx_name k).cls idx C) && (zx_w p2 (.instantiable C N) && zx_w p3 (.initialized C)))
      | none => false)
    | _ => false)
  | .newarray _ => decide (len = 2 ∧ nx = pc + 2)
  | .arraylength => decide (len = 1 ∧ nx = pc + 1)
  | .iaload => decide (len = 1 ∧ nx = pc + 1)
  | .baload => decide (len = 1 ∧ nx = pc + 1)
  | .iastore => decide (len = 1 ∧ nx = pc + 1)
  | .bastore => decide (len = 1 ∧ nx = pc + 1)
  | .lastore => decide (len = 1 ∧ nx = pc + 1)
  | .invokevirtual idx => decide (len = 3) && zx_okC k pc 1 idx nx aux
  | .invokestatic idx => decide (len = 3) && zx_okC k pc 2 idx nx aux
  | .invokespecial idx => decide (len = 3) && zx_okC k pc 3 idx nx aux
  | .ireturn => decide (len = 1) && zc1 aux fun t => zx_rkB (zx_info k).2.1 t
  | .lreturn => decide (len = 1 ∧ (zx_info k).2.1 = some .long)
  | .return_ => decide (len = 1 ∧ (zx_info k).2.1 = none)
  | _ => false
noncomputable def zx_ok (k pc : Nat) (e : zx_RI) : Bool := match e.1 with
  | .nop => true
  | i => decide (decode (zx_bys k) pc = .ok (i, e.2.1)) && zx_okI k pc i e.2.1 e.2.2.1 e.2.2.2
/-- what is true of the tables as a whole -/
def zk_t : Prop := (∀ ci C T N, zx_cl[ci]? = some (C, T, N) → zk_cl ci) ∧ Jvm.Cond.arrayClass .int ∈ zx_tb ∧ Jvm.Cond.arrayClass .byte ∈ zx_tb ∧ Jvm.Cond.arrayClass .boolean ∈ zx_tb ∧ Jvm.Cond.arrayClass .long ∈ zx_tb ∧ Jvm.Cond.instanceMethod objectInit ∈ zx_tb ∧ Jvm.Cond.code objectInit ⟨#[0xb1]⟩ 1 none ∈ zx_tb ∧ Jvm.Cond.native arraycopyName ∈ zx_tb ∧ Jvm.Cond.static arraycopyName ∈ zx_tb ∧ Jvm.Cond.initialized "java/lang/System" ∈ zx_tb
section ZS
variable {xa : List (Nat × Nat × List zx_V)} {ρ : Nat → Int32} {ex : Nat → Value} {D : va_G} {k pc : Nat}
theorem zs_loadI {i nx : Nat} (row : ∀ {x : Int32} {p : Program} {l : Launch} {e : Env} {R : Room} {s : State} {m : MethodId} {args : Array Value} {below : List Frame} {meth : Method} {c : Code} {H : Heap} {locs : List Loc} {cells slots : Nat} {Q : State → Prop} {ls : Array Slot} {rest : List Value}, p.tables.exec = Jvm.exec → c.code = zx_bys k → ls[i]? = some (.val (.int x)) →
      W p l e R s m args below meth c H locs cells slots Q (F0 m nx ls (.int x :: rest)) → W p l e R s m args below meth c H locs cells slots Q (F0 m pc ls rest)) : zy_Hok xa ρ ex D k pc (zx_load zx_isI i nx) :=
  zh_load fun {as a v} _ ho hv {p l e R s m args below meth c H locs cells slots Q ls rest} hx hb hl kk => by
    obtain ⟨x, rfl⟩ := zy_isI ho hv
    exact row hx hb hl kk
theorem zs_loadA {i nx : Nat} (row : ∀ {x : Nat} {p : Program} {l : Launch} {e : Env} {R : Room} {s : State} {m : MethodId} {args : Array Value} {below : List Frame} {meth : Method} {c : Code} {H : Heap} {locs : List Loc} {cells slots : Nat} {Q : State → Prop} {ls : Array Slot} {rest : List Value}, p.tables.exec = Jvm.exec → c.code = zx_bys k → ls[i]? = some (.val (.ref x)) →
      W p l e R s m args below meth c H locs cells slots Q (F0 m nx ls (.ref x :: rest)) → W p l e R s m args below meth c H locs cells slots Q (F0 m pc ls rest))
    (rowN : ∀ {p : Program} {l : Launch} {e : Env} {R : Room} {s : State} {m : MethodId} {args : Array Value} {below : List Frame} {meth : Method} {c : Code} {H : Heap} {locs : List Loc} {cells slots : Nat} {Q : State → Prop} {ls : Array Slot} {rest : List Value}, p.tables.exec = Jvm.exec → c.code = zx_bys k → ls[i]? = some (.val .null) →
      W p l e R s m args below meth c H locs cells slots Q (F0 m nx ls (.null :: rest)) → W p l e R s m args below meth c H locs cells slots Q (F0 m pc ls rest)) : zy_Hok xa ρ ex D k pc (zx_load zx_isA i nx) :=
  zh_load fun {as a v} hex ho hv {p l e R s m args below meth c H locs cells slots Q ls rest} hx hb hl kk => by
    rcases zy_isA hex ho hv with rfl | ⟨q, rfl⟩
    · exact rowN hx hb hl kk
    · exact row hx hb hl kk
theorem zs_if2 {c : ClassFile.Cond} {off : Int} {tgt : Nat} (hd : decode (zx_bys k) pc = .ok (.if_icmp c off, 3)) (ht : (pc : Int) + off = (tgt : Int)) : zy_Hok xa ρ ex D k pc (zx_if2 c tgt (pc + 3)) := by
  cases c
  · exact zh_if2 fun hx hb kt kf => lv_icmp_eq hx hb hd ht kt kf
  · exact zh_if2 fun hx hb kt kf => lv_icmp_ne hx hb hd ht kt (fun h => kf (fun n => n h))
  · exact zh_if2 fun hx hb kt kf => lv_icmp_lt hx hb hd ht kt kf
  · exact zh_if2 fun hx hb kt kf => lv_icmp_ge hx hb hd ht kt kf
  · exact zh_if2 fun hx hb kt kf => lv_icmp_gt hx hb hd ht kt kf
  · exact zh_if2 fun hx hb kt kf => lv_icmp_le hx hb hd ht kt kf
theorem zs_if1 {c : ClassFile.Cond} {off : Int} {tgt : Nat} (hd : decode (zx_bys k) pc = .ok (.ifCond c off, 3)) (ht : (pc : Int) + off = (tgt : Int)) : zy_Hok xa ρ ex D k pc (zx_if1 c tgt (pc + 3)) := by
  cases c
  · exact zh_if1 fun hx hb kt kf => lv_if_eq hx hb hd ht kt kf
  · exact zh_if1 fun hx hb kt kf => lv_if_ne hx hb hd ht kt (fun h => kf (fun n => n h))
  · exact zh_if1 fun hx hb kt kf => lv_if_lt hx hb hd ht kt kf
  · exact zh_if1 fun hx hb kt kf => lv_if_ge hx hb hd ht kt kf
  · exact zh_if1 fun hx hb kt kf => lv_if_gt hx hb hd ht kt kf
  · exact zh_if1 fun hx hb kt kf => lv_if_le hx hb hd ht kt kf
theorem zs_call {vk idx nx : Nat} {i : Instr} {aux : List Nat} (hT : zk_t) (hd : decode (zx_bys k) pc = .ok (i, 3)) (hi : (vk = 1 ∧ i = .invokevirtual idx) ∨ (vk = 2 ∧ i = .invokestatic idx) ∨ (vk = 3 ∧ i = .invokespecial idx)) (h : zx_okC k pc vk idx nx aux = true) : zy_Hok xa ρ ex D k pc (zx_inv aux nx) := by
  obtain ⟨hn, h⟩ := Bool.and_eq_true_iff.mp h
  have hn := of_decide_eq_true hn
  match aux, h with
  | 0 :: p :: _, h =>
    obtain ⟨h1, h2⟩ := Bool.and_eq_true_iff.mp h
    have h1 := of_decide_eq_true h1
    rcases hi with ⟨z, -⟩ | ⟨z, -⟩ | ⟨-, rfl⟩
    · omega
    · omega
    · exact zh_oin (zx_w_ok h2) hT.2.2.2.2.2.1 hT.2.2.2.2.2.2.1 hd hn
  | 1 :: p :: _, h =>
    obtain ⟨h1, h2⟩ := Bool.and_eq_true_iff.mp h
    have h1 := of_decide_eq_true h1
    rcases hi with ⟨z, -⟩ | ⟨-, rfl⟩ | ⟨z, -⟩
    · omega
    · exact zh_cpy (zx_w_ok h2) hT.2.2.2.2.2.2.2.1 hT.2.2.2.2.2.2.2.2.1 hT.2.2.2.2.2.2.2.2.2 hd hn
    · omega
  | 4 :: p1 :: p2 :: p3 :: p4 :: _, h =>
    obtain ⟨h1, h⟩ := Bool.and_eq_true_iff.mp h
    obtain ⟨h2, h⟩ := Bool.and_eq_true_iff.mp h
    obtain ⟨h3, h⟩ := Bool.and_eq_true_iff.mp h
    obtain ⟨h4, h5⟩ := Bool.and_eq_true_iff.mp h
    have h1 := of_decide_eq_true h1
    rcases hi with ⟨z, -⟩ | ⟨-, rfl⟩ | ⟨z, -⟩
    · omega
    · exact zh_mmx (zx_w_ok h2) (zx_w_ok h3) (zx_w_ok h4) (zx_w_ok h5) hd hn
    · omega
  | 5 :: p1 :: p2 :: p3 :: p4 :: _, h =>
    obtain ⟨h1, h⟩ := Bool.and_eq_true_iff.mp h
    obtain ⟨h2, h⟩ := Bool.and_eq_true_iff.mp h
    obtain ⟨h3, h⟩ := Bool.and_eq_true_iff.mp h
    obtain ⟨h4, h5⟩ := Bool.and_eq_true_iff.mp h
    have h1 := of_decide_eq_true h1
    rcases hi with ⟨z, -⟩ | ⟨-, rfl⟩ | ⟨z, -⟩
    · omega
    · exact zh_mmn (zx_w_ok h2) (zx_w_ok h3) (zx_w_ok h4) (zx_w_ok h5) hd hn
    · omega
  | 2 :: rk :: ci :: k' :: mc :: ms :: p1 :: p2 :: p3 :: p4 :: mx :: is, h =>
    obtain ⟨h1, h⟩ := Bool.and_eq_true_iff.mp h
    obtain ⟨h2, h⟩ := Bool.and_eq_true_iff.mp h
    have hM : zk_m k' mc ms mx := zx_mB_ok h1
    rcases hi with ⟨rfl, rfl⟩ | ⟨rfl, rfl⟩ | ⟨rfl, rfl⟩
    · obtain ⟨e1, h⟩ := Bool.and_eq_true_iff.mp h
      obtain ⟨e2, h⟩ := Bool.and_eq_true_iff.mp h
      obtain ⟨e3, h⟩ := Bool.and_eq_true_iff.mp h
      match is, h with
      | _ :: r, h => exact zh_virt hn hM (zx_clB_ok e1).1 (zx_clB_ok e1).2 (of_decide_eq_true h) rfl (zx_w_ok h2) (zx_w_ok e2) (zx_w_ok e3) hd
    · obtain ⟨e1, h⟩ := Bool.and_eq_true_iff.mp h
      obtain ⟨e2, hz⟩ := Bool.and_eq_true_iff.mp h
      have e1 : rk = 0 := of_decide_eq_true e1
      subst e1
      exact zh_stat hn hM (of_decide_eq_true hz) rfl (zx_w_ok h2) (zx_w_ok e2) hd
    · obtain ⟨e1, h⟩ := Bool.and_eq_true_iff.mp h
      obtain ⟨e2, h⟩ := Bool.and_eq_true_iff.mp h
      obtain ⟨e3, h⟩ := Bool.and_eq_true_iff.mp h
      obtain ⟨-, f1, f2⟩ := of_decide_eq_true e2
      match is, h with
      | _ :: r, h => exact zh_spec hn hM (zx_clB_ok e1).1 (zx_clB_ok e1).2 (of_decide_eq_true h) rfl f1 f2 (zx_w_ok h2) (zx_w_ok e3) hd
  | 3 :: rk :: ci :: k' :: mc :: ms :: p1 :: p2 :: p3 :: p4 :: mx :: is, h =>
    obtain ⟨h1, h⟩ := Bool.and_eq_true_iff.mp h
    obtain ⟨h2, h⟩ := Bool.and_eq_true_iff.mp h
    obtain ⟨h3, hz⟩ := Bool.and_eq_true_iff.mp h
    obtain ⟨e1, e2, e3, e4, e5⟩ := of_decide_eq_true h2
    have hM : zk_m k' mc ms mx := zx_mB_ok h1
    subst e2
    rcases hi with ⟨z, -⟩ | ⟨-, rfl⟩ | ⟨z, -⟩
    · omega
    · exact zh_nest hn hM (of_decide_eq_true hz) rfl e3 e4 e5 (zx_w_ok h3) hd
    · omega
end ZS
end
section
/-! every row that is checked is right; so is the executor -/
section ZZ
variable {xa : List (Nat × Nat × List zx_V)} {ρ : Nat → Int32} {ex : Nat → Value} {D : va_G} {k pc : Nat}
set_option maxRecDepth 100000 in
set_option maxHeartbeats 4000000 in
theorem zs_I (hT : zk_t) {i : Instr} {len nx : Nat} {aux : List Nat} (hd : decode (zx_bys k) pc = .ok (i, len)) (h : zx_okI k pc i len nx aux = true) : zy_Hok xa ρ ex D k pc (zx_h xa (i, len, nx, aux)) := by
  have n1 : ∀ (f : Nat → Bool) (g : Nat → zx_Hd), zc1 aux f = true → (∀ i, f i = true → zy_Hok xa ρ ex D k pc (g i)) → zy_Hok xa ρ ex D k pc (zx_a1 aux g) := by
    intro f g hf hg
    match aux, hf with
    | i :: _, hf => exact hg i hf
  have n2 : ∀ (f : Nat → Nat → Bool) (g : Nat → Nat → zx_Hd), zc2 aux f = true → (∀ i j, f i j = true → zy_Hok xa ρ ex D k pc (g i j)) → zy_Hok xa ρ ex D k pc (zx_a2 aux g) := by
    intro f g hf hg
    match aux, hf with
    | i :: j :: _, hf => exact hg i j hf
  have one : decide (len = 1 ∧ nx = pc + 1) = true → len = 1 ∧ nx = pc + 1 := fun z => of_decide_eq_true z
  cases i with
  | aload_n j =>
    refine n1 _ _ h fun i hi => ?_
    obtain ⟨h1, rfl, rfl⟩ := of_decide_eq_true hi
    exact zs_loadA (fun hx hb hl kk => lv_aload_n hx hb hd h1 hl kk) (fun hx hb hl kk => lv_aload_nN hx hb hd h1 hl kk)
  | aload j =>
    refine n1 _ _ h fun i hi => ?_
    obtain ⟨rfl, rfl, rfl⟩ := of_decide_eq_true hi
    exact zs_loadA (fun hx hb hl kk => lv_aload hx hb hd hl kk) (fun hx hb hl kk => lv_aloadN hx hb hd hl kk)
  | iload_n j =>
    refine n1 _ _ h fun i hi => ?_
    obtain ⟨h1, rfl, rfl⟩ := of_decide_eq_true hi
    exact zs_loadI (fun hx hb hl kk => lv_iload_n hx hb hd h1 hl kk)
  | iload j =>
    refine n1 _ _ h fun i hi => ?_
    obtain ⟨rfl, rfl, rfl⟩ := of_decide_eq_true hi
    exact zs_loadI (fun hx hb hl kk => lv_iload hx hb hd hl kk)
  | lload_n j =>
    refine n1 _ _ h fun i hi => ?_
    obtain ⟨h1, rfl, rfl⟩ := of_decide_eq_true hi
    exact zh_load fun {as a v} _ ho hv {p l e R s m args below meth c H locs cells slots Q ls rest} hx hb hl kk => by
      obtain ⟨x, rfl⟩ := zy_isL ho hv
      exact lv_lload_n hx hb hd h1 hl kk
  | istore_n j =>
    refine n1 _ _ h fun i hi => ?_
    obtain ⟨h1, rfl, rfl, h2⟩ := of_decide_eq_true hi
    exact zh_sto1 fun {as a v} _ ho hv {p l e R s m args below meth c H locs cells slots Q ls rest} hx hb hl kk => by
      obtain ⟨x, rfl⟩ := zy_isI ho hv
      exact lv_istore_n hx hb hd h1 hl h2 rfl kk
  | istore j =>
    refine n1 _ _ h fun i hi => ?_
    obtain ⟨rfl, rfl, rfl, h2⟩ := of_decide_eq_true hi
    exact zh_sto1 fun {as a v} _ ho hv {p l e R s m args below meth c H locs cells slots Q ls rest} hx hb hl kk => by
      obtain ⟨x, rfl⟩ := zy_isI ho hv
      exact lv_istore hx hb hd hl h2 rfl kk
  | astore_n j =>
    refine n1 _ _ h fun i hi => ?_
    obtain ⟨h1, rfl, rfl, h2⟩ := of_decide_eq_true hi
    exact zh_sto1 fun {as a v} hex ho hv {p l e R s m args below meth c H locs cells slots Q ls rest} hx hb hl kk => by
      rcases zy_isA hex ho hv with rfl | ⟨q, rfl⟩
      · exact lv_astore_nN hx hb hd h1 hl h2 rfl kk
      · exact lv_astore_n hx hb hd h1 hl h2 rfl kk
  | lstore_n j =>
    refine n1 _ _ h fun i hi => ?_
    obtain ⟨h1, rfl, rfl, h2⟩ := of_decide_eq_true hi
    exact zh_sto2 fun hx hb hl kk => lv_lstore_n hx hb hd h1 hl h2 rfl kk
  | iconst v =>
    refine n1 _ _ h fun n hi => ?_
    obtain ⟨h1, rfl, rfl⟩ := of_decide_eq_true hi
    exact zh_push (v := .int (Int32.ofNat n)) (fun _ => rfl) fun {p l e R s m args below meth c A H locs cells slots Q ls rest fr} hk C _ kk => lv_iconst C.1 (by rw [← hk]; exact C.2.1) hd h1 kk
  | bipush v =>
    refine n1 _ _ h fun n hi => ?_
    obtain ⟨h1, rfl, rfl⟩ := of_decide_eq_true hi
    exact zh_push (v := .int (Int32.ofNat n)) (fun _ => rfl) fun {p l e R s m args below meth c A H locs cells slots Q ls rest fr} hk C _ kk => lv_bipush C.1 (by rw [← hk]; exact C.2.1) hd h1 kk
  | sipush v =>
    refine n1 _ _ h fun n hi => ?_
    obtain ⟨h1, rfl, rfl⟩ := of_decide_eq_true hi
    exact zh_push (v := .int (Int32.ofNat n)) (fun _ => rfl) fun {p l e R s m args below meth c A H locs cells slots Q ls rest fr} hk C _ kk => lv_sipush C.1 (by rw [← hk]; exact C.2.1) hd h1 kk
  | lconst v =>
    refine n1 _ _ h fun n hi => ?_
    obtain ⟨h1, rfl, rfl⟩ := of_decide_eq_true hi
    exact zh_push (v := .long (Int64.ofNat n)) (fun _ => rfl) fun {p l e R s m args below meth c A H locs cells slots Q ls rest fr} hk C _ kk => lv_lconst C.1 (by rw [← hk]; exact C.2.1) hd h1 kk
  | ldc idx =>
    obtain ⟨h1, hz⟩ := Bool.and_eq_true_iff.mp h
    obtain ⟨rfl, rfl⟩ := of_decide_eq_true h1
    clear h n1 n2
    match aux, hz with
    | t :: n :: p :: _, h =>
      have h : cond (Nat.beq t 0) (zx_w p (.constant (zx_name k).cls idx (Int32.ofNat n))) (decide ((zx_name k).cls = "DeckChairs$Tokens" ∧ ((idx = 25 ∧ n = 2) ∨ (idx = 27 ∧ n = 3)))) = true := h
      show zy_Hok xa ρ ex D k pc (cond (Nat.beq t 0) (zx_push (.inl n) (pc + 2)) (zx_push (.inr (.inr (.inr (.inr (.inl n))))) (pc + 2)))
      cases hb : Nat.beq t 0 with
      | true =>
        rw [hb] at h
        exact zh_push (v := .int (Int32.ofNat n)) (fun _ => rfl) fun {p l e R s m args below meth c A H locs cells slots Q ls rest fr} hk C _ kk => lv_ldc (own := (zx_name k).cls) C.1 (by rw [← hk]; exact C.2.1) (by rw [← hk]; exact C.2.2.2.1) (C.2.2.2.2.1 _ (zx_w_ok h)) hd kk
      | false =>
        rw [hb] at h
        obtain ⟨e1, e2⟩ := of_decide_eq_true h
        refine zh_push (v := ex n) (fun _ => rfl) fun {p l e R s m args below meth c A H locs cells slots Q ls rest fr} hk C _ kk => ?_
        have hX := C.2.2.2.2.2.2.1
        have ho : s.vm.findClass "DeckChairs$Tokens" = some m.cls := by rw [← e1, ← hk]; exact C.2.2.2.1
        rcases e2 with ⟨rfl, rfl⟩ | ⟨rfl, rfl⟩
        · obtain ⟨a, tx, f1, f2⟩ := hX.2.2.2.2.1
          rw [f1] at kk
          exact va_ldcS C.1 (by rw [← hk]; exact C.2.1) ho f2 hd kk
        · obtain ⟨a, tx, f1, f2⟩ := hX.2.2.2.2.2.1
          rw [f1] at kk
          exact va_ldcS C.1 (by rw [← hk]; exact C.2.1) ho f2 hd kk
  | ldc_w idx =>
    obtain ⟨h1, hz⟩ := Bool.and_eq_true_iff.mp h
    obtain ⟨rfl, rfl⟩ := of_decide_eq_true h1
    clear h n1 n2
    match aux, hz with
    | t :: n :: p :: _, h =>
      have h : cond (Nat.beq t 0) (zx_w p (.constant (zx_name k).cls idx (Int32.ofNat n))) false = true := h
      show zy_Hok xa ρ ex D k pc (cond (Nat.beq t 0) (zx_push (.inl n) (pc + 3)) zx_bad)
      cases hb : Nat.beq t 0 with
      | true =>
        rw [hb] at h
        exact zh_push (v := .int (Int32.ofNat n)) (fun _ => rfl) fun {p l e R s m args below meth c A H locs cells slots Q ls rest fr} hk C _ kk => lv_ldcw (own := (zx_name k).cls) C.1 (by rw [← hk]; exact C.2.1) (by rw [← hk]; exact C.2.2.2.1) (C.2.2.2.2.1 _ (zx_w_ok h)) hd kk
      | false => rw [hb] at h; cases h
  | ldc2_w idx =>
    obtain ⟨h1, hz⟩ := Bool.and_eq_true_iff.mp h
    obtain ⟨rfl, rfl⟩ := of_decide_eq_true h1
    clear h n1 n2
    match aux, hz with
    | n :: p :: _, h =>
      have h : zx_w p (.constantLong (zx_name k).cls idx (Int64.ofNat n)) = true := h
      exact zh_push (v := .long (Int64.ofNat n)) (fun _ => rfl) fun {p l e R s m args below meth c A H locs cells slots Q ls rest fr} hk C _ kk => lv_ldc2 (own := (zx_name k).cls) C.1 (by rw [← hk]; exact C.2.1) (by rw [← hk]; exact C.2.2.2.1) (C.2.2.2.2.1 _ (zx_w_ok h)) hd kk
  | iinc j v =>
    refine n2 _ _ h fun i cc hi => ?_
    obtain ⟨rfl, h1, rfl, rfl, h2⟩ := of_decide_eq_true hi
    exact zh_inc fun {x p l e R s m args below meth c H locs cells slots Q ls rest} hx hb hl hi kk => by
      obtain ⟨q, hq⟩ := List.getElem?_of_mem (zy_fl_mem hi)
      exact lv_iinc hx hb hd hl hq (by rw [h1]) h2 rfl kk
  | iadd =>
    obtain ⟨rfl, rfl⟩ := one h
    exact zh_bin (op := fun x y => x + y) (S := fun _ => True) (fun ha hb h => by obtain ⟨x, y, v, e1, e2, e3, e4⟩ := zx_add_ok ha hb h; exact ⟨x, y, v, e1, e2, trivial, e3, e4⟩) (fun hx hb _ kk => lv_iadd hx hb hd kk)
  | isub =>
    obtain ⟨rfl, rfl⟩ := one h
    exact zh_bin (op := fun x y => x - y) (S := fun _ => True) (fun ha hb h => by obtain ⟨x, y, v, e1, e2, e3, e4⟩ := zx_bop_ok (op := fun x y => x - y) zy_sub ha hb h; exact ⟨x, y, v, e1, e2, trivial, e3, e4⟩) (fun hx hb _ kk => lv_isub hx hb hd kk)
  | imul =>
    obtain ⟨rfl, rfl⟩ := one h
    exact zh_bin (op := fun x y => x * y) (S := fun _ => True) (fun ha hb h => by obtain ⟨x, y, v, e1, e2, e3, e4⟩ := zx_bop_ok (op := fun x y => x * y) zy_mul ha hb h; exact ⟨x, y, v, e1, e2, trivial, e3, e4⟩) (fun hx hb _ kk => lv_imul hx hb hd kk)
  | iand =>
    obtain ⟨rfl, rfl⟩ := one h
    exact zh_bin (op := fun x y => x &&& y) (S := fun _ => True) (fun ha hb h => by obtain ⟨x, y, v, e1, e2, e3, e4⟩ := zx_bop_ok (op := fun x y => x &&& y) (zy_i2 _) ha hb h; exact ⟨x, y, v, e1, e2, trivial, e3, e4⟩) (fun hx hb _ kk => lv_iand hx hb hd kk)
  | ior =>
    obtain ⟨rfl, rfl⟩ := one h
    exact zh_bin (op := fun x y => x ||| y) (S := fun _ => True) (fun ha hb h => by obtain ⟨x, y, v, e1, e2, e3, e4⟩ := zx_bop_ok (op := fun x y => x ||| y) (zy_i2 _) ha hb h; exact ⟨x, y, v, e1, e2, trivial, e3, e4⟩) (fun hx hb _ kk => lv_ior hx hb hd kk)
  | ixor =>
    obtain ⟨rfl, rfl⟩ := one h
    exact zh_bin (op := fun x y => x ^^^ y) (S := fun _ => True) (fun ha hb h => by obtain ⟨x, y, v, e1, e2, e3, e4⟩ := zx_bop_ok (op := fun x y => x ^^^ y) (zy_i2 _) ha hb h; exact ⟨x, y, v, e1, e2, trivial, e3, e4⟩) (fun hx hb _ kk => lv_ixor hx hb hd kk)
  | ishl =>
    obtain ⟨rfl, rfl⟩ := one h
    exact zh_bin (op := fun x y => x <<< (y &&& 31)) (S := fun _ => True) (fun ha hb h => by obtain ⟨x, y, v, e1, e2, e3, e4⟩ := zx_bop_ok (op := fun x y => x <<< (y &&& 31)) (zy_i2 _) ha hb h; exact ⟨x, y, v, e1, e2, trivial, e3, e4⟩) (fun hx hb _ kk => lv_ishl hx hb hd kk)
  | ishr =>
    obtain ⟨rfl, rfl⟩ := one h
    exact zh_bin (op := fun x y => x >>> (y &&& 31)) (S := fun _ => True) (fun ha hb h => by obtain ⟨x, y, v, e1, e2, e3, e4⟩ := zx_bop_ok (op := fun x y => x >>> (y &&& 31)) (zy_i2 _) ha hb h; exact ⟨x, y, v, e1, e2, trivial, e3, e4⟩) (fun hx hb _ kk => lv_ishr hx hb hd kk)
  | iushr =>
    obtain ⟨rfl, rfl⟩ := one h
    exact zh_bin (op := fun x y => (x.toUInt32 >>> (y.toUInt32 &&& Int32.toUInt32 31)).toInt32) (S := fun _ => True) (fun ha hb h => by obtain ⟨x, y, v, e1, e2, e3, e4⟩ := zx_bop_ok (op := fun x y => (x.toUInt32 >>> (y.toUInt32 &&& Int32.toUInt32 31)).toInt32) (zy_i2 _) ha hb h; exact ⟨x, y, v, e1, e2, trivial, e3, e4⟩) (fun hx hb _ kk => lv_iushr hx hb hd rfl kk)
  | idiv =>
    obtain ⟨rfl, rfl⟩ := one h
    exact zh_bin (op := fun x y => x / y) (S := fun y => ¬ y = 0) (fun ha hb h => zx_div_ok (op := fun x y => x / y) (zy_i2 _) ha hb h) (fun hx hb hy kk => lv_idiv hx hb hd hy kk)
  | irem =>
    obtain ⟨rfl, rfl⟩ := one h
    exact zh_bin (op := fun x y => x - x / y * y) (S := fun y => ¬ y = 0) (fun ha hb h => zx_div_ok (op := fun x y => x - x / y * y) (zy_i2 _) ha hb h) (fun hx hb hy kk => lv_irem hx hb hd hy kk)
  | ladd =>
    obtain ⟨rfl, rfl⟩ := one h
    exact zh_lop (op := fun x y => x + y) (zy_l2 _) (fun hx hb kk => lv_ladd hx hb hd kk)
  | lmul =>
    obtain ⟨rfl, rfl⟩ := one h
    exact zh_lop (op := fun x y => x * y) (zy_l2 _) (fun hx hb kk => lv_lmul hx hb hd kk)
  | i2l =>
    obtain ⟨rfl, rfl⟩ := one h
    exact zh_cvL (op := fun x => x.toInt64) (fun a => zy_of64 _) (fun hx hb kk => lv_i2l hx hb hd rfl kk)
  | i2b =>
    obtain ⟨rfl, rfl⟩ := one h
    exact zh_cvI (op := fun x => x.toInt8.toInt32) (fun a => zy_of32 _) (fun hx hb kk => lv_i2b hx hb hd rfl kk)
  | i2c =>
    obtain ⟨rfl, rfl⟩ := one h
    exact zh_cvI (op := fun x => (x.toUInt32 % 65536).toInt32) (fun a => zy_of32 _) (fun hx hb kk => lv_i2c hx hb hd rfl kk)
  | dup =>
    obtain ⟨rfl, rfl⟩ := one h
    exact zh_stk fun {as st s2 sv} hex hf hs {p l e R s m args below meth cd H locs cells slots Q ls} hx hb kk => by
      match st, sv, hs, hf with
      | a :: r, v :: t, ⟨h1, h2⟩, hf =>
        have hf : cond (zx_isL a) none (some (a :: a :: r)) = some s2 := hf
        have hc := zy_cat hex h1
        cases hL : zx_isL a with
        | true => rw [hL] at hf; cases hf
        | false =>
          rw [hL] at hf hc
          cases hf
          exact lv_dup hx hb hd hc (kk _ ⟨h1, h1, h2⟩)
  | pop =>
    obtain ⟨rfl, rfl⟩ := one h
    exact zh_stk fun {as st s2 sv} hex hf hs {p l e R s m args below meth cd H locs cells slots Q ls} hx hb kk => by
      match st, sv, hs, hf with
      | a :: r, v :: t, ⟨h1, h2⟩, hf =>
        have hf : cond (zx_isL a) none (some r) = some s2 := hf
        have hc := zy_cat hex h1
        cases hL : zx_isL a with
        | true => rw [hL] at hf; cases hf
        | false =>
          rw [hL] at hf hc
          cases hf
          exact lv_pop hx hb hd hc (kk _ h2)
  | dup2 =>
    obtain ⟨rfl, rfl⟩ := one h
    exact zh_stk fun {as st s2 sv} hex hf hs {p l e R s m args below meth cd H locs cells slots Q ls} hx hb kk => by
      match st, sv, hs, hf with
      | b :: a :: r, vb :: va :: t, ⟨h1, h2, h3⟩, hf =>
        have hf : cond (zx_isL a || zx_isL b) none (some (b :: a :: b :: a :: r)) = some s2 := hf
        have hc := zy_cat hex h1
        have hc2 := zy_cat hex h2
        cases hL : zx_isL a with
        | true => rw [hL] at hf; cases hf
        | false =>
          cases hL2 : zx_isL b with
          | true => rw [hL, hL2] at hf; cases hf
          | false =>
            rw [hL, hL2] at hf
            rw [hL2] at hc
            rw [hL] at hc2
            cases hf
            exact lv_dup2_11 hx hb hd hc hc2 (kk _ ⟨h1, h2, h1, h2, h3⟩)
  | ifCond c off =>
    refine n1 _ _ h fun t hi => ?_
    obtain ⟨h1, rfl, rfl⟩ := of_decide_eq_true hi
    exact zs_if1 hd h1
  | if_icmp c off =>
    refine n1 _ _ h fun t hi => ?_
    obtain ⟨h1, rfl, rfl⟩ := of_decide_eq_true hi
    exact zs_if2 hd h1
  | goto off =>
    refine n1 _ _ h fun t hi => ?_
    obtain ⟨h1, rfl⟩ := of_decide_eq_true hi
    exact zh_goto fun hx hb kk => lv_goto hx hb hd h1 kk
  | tableswitch dflt lo hi offs =>
    clear n1 n2
    match aux, h with
    | d :: ts, h =>
      obtain ⟨h1, h2, h3⟩ := of_decide_eq_true h
      refine zh_tsw hd h1 h2 fun j t ht => ?_
      have e1 : (ts.map (fun t : Nat => (t : Int)))[j]? = some (t : Int) := by rw [List.getElem?_map, ht]; rfl
      rw [← h3, List.getElem?_map] at e1
      cases e2 : offs.toList[j]? with
      | none => rw [e2] at e1; cases e1
      | some off =>
        rw [e2] at e1
        have e1 : some ((pc : Int) + off) = some (t : Int) := e1
        exact ⟨off, by rw [← Array.getElem?_toList]; exact e2, Option.some.inj e1⟩
  | getfield idx =>
    obtain ⟨h1, hz⟩ := Bool.and_eq_true_iff.mp h
    obtain ⟨rfl, rfl⟩ := of_decide_eq_true h1
    clear h n1 n2
    match aux, hz with
    | t :: ci :: j :: aux2, h =>
      have h : cond (Nat.beq t 0) (match zx_cl[ci]? with
      | some (_, T, N) => decide (j < N) && (zc1 aux2 fun p => zx_w p (.fieldLink (zx_name k).cls idx (T j).1 (T j).2.1 (T j).2.2.1))
      | none => false) (cond (Nat.beq ci 0) (zx_w j (.fieldLink (zx_name k).cls idx "java/lang/String" "value" "[B")) (zx_w j (.fieldLink (zx_name k).cls idx "java/lang/String" "coder" "B"))) = true := h
      show zy_Hok xa ρ ex D k pc (cond (Nat.beq t 0) (zx_gf ci j (pc + 3)) (cond (Nat.beq ci 0) (zx_xgf zx_xv (pc + 3)) (zx_xgf zx_xc (pc + 3))))
      cases hb : Nat.beq t 0 with
      | true =>
        rw [hb] at h
        cases hc : zx_cl[ci]? with
        | none => rw [hc] at h; cases h
        | some q =>
          obtain ⟨C, T, N⟩ := q
          rw [hc] at h
          obtain ⟨h2, h3⟩ := Bool.and_eq_true_iff.mp h
          cases aux2 with
          | nil => cases h3
          | cons p _ => exact zh_gf hc (hT.1 ci C T N hc) (of_decide_eq_true h2) (zx_w_ok h3) hd rfl
      | false =>
        rw [hb] at h
        cases hb2 : Nat.beq ci 0 with
        | true =>
          rw [hb2] at h
          refine zh_xgf (nme := "value") (dsc := "[B") (fun a x hm A s hX => ?_) (zx_w_ok h) hd rfl
          have hm : (a, x) = (2, .inr (.inr (.inr (.inr (.inl 4))))) ∨ (a, x) = (3, .inr (.inr (.inr (.inr (.inl 5))))) := by
            rcases List.mem_cons.mp hm with z | hm
            · exact Or.inl z
            rcases List.mem_cons.mp hm with z | hm
            · exact Or.inr z
            · cases hm
          rcases hm with z | z <;> cases z
          · obtain ⟨b, b1, b2, b3, b4⟩ := hX.2.2.2.1 2 (Or.inl rfl)
            exact ⟨b, _, b1, b3, fun _ => rfl⟩
          · obtain ⟨b, b1, b2, b3, b4⟩ := hX.2.2.2.1 3 (Or.inr rfl)
            exact ⟨b, _, b1, b3, fun _ => rfl⟩
        | false =>
          rw [hb2] at h
          refine zh_xgf (nme := "coder") (dsc := "B") (fun a x hm A s hX => ?_) (zx_w_ok h) hd rfl
          have hm : (a, x) = (2, .inl 0) ∨ (a, x) = (3, .inl 0) := by
            rcases List.mem_cons.mp hm with z | hm
            · exact Or.inl z
            rcases List.mem_cons.mp hm with z | hm
            · exact Or.inr z
            · cases hm
          rcases hm with z | z <;> cases z
          · obtain ⟨b, b1, b2, b3, b4⟩ := hX.2.2.2.1 2 (Or.inl rfl)
            exact ⟨b, _, b1, b4, fun _ => rfl⟩
          · obtain ⟨b, b1, b2, b3, b4⟩ := hX.2.2.2.1 3 (Or.inr rfl)
            exact ⟨b, _, b1, b4, fun _ => rfl⟩
  | putfield idx =>
    obtain ⟨h1, hz⟩ := Bool.and_eq_true_iff.mp h
    obtain ⟨rfl, rfl⟩ := of_decide_eq_true h1
    clear h n1 n2
    match aux, hz with
    | ci :: j :: t :: aux2, h =>
      have h : (match zx_cl[ci]? with
      | some (_, T, N) => decide (j < N) && ((zc1 aux2 fun p => zx_w p (.fieldLink (zx_name k).cls idx (T j).1 (T j).2.1 (T j).2.2.1)) && ((match parseFieldDescriptor (T j).2.2.1 with | some ty => zx_tkB ty t | none => false) && decide ((T j).2.2.2 = false ∨ ((T j).2.2.2 = true ∧ (zx_name k).name = "<init>" ∧ (T j).1 = (zx_name k).cls))))
      | none => false) = true := h
      show zy_Hok xa ρ ex D k pc (zx_pf ci j t (pc + 3))
      cases hc : zx_cl[ci]? with
      | none => rw [hc] at h; cases h
      | some q =>
        obtain ⟨C, T, N⟩ := q
        rw [hc] at h
        obtain ⟨h2, h⟩ := Bool.and_eq_true_iff.mp h
        obtain ⟨h3, h⟩ := Bool.and_eq_true_iff.mp h
        obtain ⟨h4, h5⟩ := Bool.and_eq_true_iff.mp h
        cases hp : parseFieldDescriptor (T j).2.2.1 with
        | none => rw [hp] at h4; cases h4
        | some ty =>
          rw [hp] at h4
          cases aux2 with
          | nil => cases h3
          | cons p _ => exact zh_pf hc (hT.1 ci C T N hc) (of_decide_eq_true h2) (zx_w_ok h3) hp (zx_tkB_ok h4) (of_decide_eq_true h5) hd rfl
  | getstatic idx =>
    obtain ⟨h1, hz⟩ := Bool.and_eq_true_iff.mp h
    obtain ⟨rfl, rfl⟩ := of_decide_eq_true h1
    clear h n1 n2
    match aux, hz with
    | t :: p :: _, h =>
      have h : cond (Nat.beq t 0) (zx_w p (.fieldLink (zx_name k).cls idx "DeckChairs$Hinge" "ADDED" "[I")) (cond (Nat.beq t 1) (zx_w p (.fieldLink (zx_name k).cls idx "java/lang/String" "COMPACT_STRINGS" "Z")) (zx_w p (.fieldLink (zx_name k).cls idx "jdk/internal/util/Preconditions" "SIOOBE_FORMATTER" "Ljava/util/function/BiFunction;"))) = true := h
      show zy_Hok xa ρ ex D k pc (cond (Nat.beq t 0) (zx_push (.inr (.inr (.inr (.inr (.inl 0))))) (pc + 3)) (cond (Nat.beq t 1) (zx_push (.inl 1) (pc + 3)) (zx_push (.inr (.inr (.inr (.inr (.inl 7))))) (pc + 3))))
      cases hb : Nat.beq t 0 with
      | true =>
        rw [hb] at h
        exact zh_push (v := ex 0) (fun _ => rfl) fun {p l e R s m args below meth c A H locs cells slots Q ls rest fr} hk C hS kk => va_gets (own := (zx_name k).cls) C.1 (by rw [← hk]; exact C.2.1) C.2.2.2.2.2.2.1.2.2.1.1 hS (by rw [← hk]; exact C.2.2.2.1) (C.2.2.2.2.1 _ (zx_w_ok h)) (fun _ z => z) hd kk
      | false =>
        rw [hb] at h
        cases hb2 : Nat.beq t 1 with
        | true =>
          rw [hb2] at h
          exact zh_push (v := .int 1) (fun _ => rfl) fun {p l e R s m args below meth c A H locs cells slots Q ls rest fr} hk C hS kk => va_gets (own := (zx_name k).cls) C.1 (by rw [← hk]; exact C.2.1) C.2.2.2.2.2.2.1.2.2.1.2.1 hS (by rw [← hk]; exact C.2.2.2.1) (C.2.2.2.2.1 _ (zx_w_ok h)) (fun _ z => z) hd kk
        | false =>
          rw [hb2] at h
          exact zh_push (v := ex 7) (fun _ => rfl) fun {p l e R s m args below meth c A H locs cells slots Q ls rest fr} hk C hS kk => va_gets (own := (zx_name k).cls) C.1 (by rw [← hk]; exact C.2.1) C.2.2.2.2.2.2.1.2.2.1.2.2 hS (by rw [← hk]; exact C.2.2.2.1) (C.2.2.2.2.1 _ (zx_w_ok h)) (fun _ z => z) hd kk
  | new idx =>
    obtain ⟨h1, hz⟩ := Bool.and_eq_true_iff.mp h
    obtain ⟨rfl, rfl⟩ := of_decide_eq_true h1
    clear h n1 n2
    match aux, hz with
    | ci :: N :: p1 :: p2 :: p3 :: _, h =>
      have h : (match zx_cl[ci]? with
      | some (C, _, N') => decide (N' = N) && (zx_w p1 (.classLink (zx_name k).cls idx C) && (zx_w p2 (.instantiable C N) && zx_w p3 (.initialized C)))
      | none => false) = true := h
      show zy_Hok xa ρ ex D k pc (zx_new ci N (zx_dfl.getD ci []) (pc + 3))
      cases hc : zx_cl[ci]? with
      | none => rw [hc] at h; cases h
      | some q =>
        obtain ⟨C, T, N'⟩ := q
        rw [hc] at h
        obtain ⟨h2, h⟩ := Bool.and_eq_true_iff.mp h
        obtain ⟨h3, h⟩ := Bool.and_eq_true_iff.mp h
        obtain ⟨h4, h5⟩ := Bool.and_eq_true_iff.mp h
        have e : N' = N := of_decide_eq_true h2
        subst e
        exact zh_new hc (hT.1 ci C T N' hc) (zx_w_ok h3) (zx_w_ok h4) (zx_w_ok h5) hd rfl
  | newarray t =>
    obtain ⟨rfl, rfl⟩ := of_decide_eq_true (show decide (len = 2 ∧ nx = pc + 2) = true from h)
    cases t with
    | int => exact zh_newai (t := 0) (by omega) rfl hT.2.1 hd rfl
    | byte => exact zh_newai (t := 1) (by omega) rfl hT.2.2.1 hd rfl
    | boolean => exact zh_newai (t := 2) (by omega) rfl hT.2.2.2.1 hd rfl
    | long => exact zh_newal hT.2.2.2.2.1 hd rfl
    | _ => exact zh_bad
  | arraylength =>
    obtain ⟨rfl, rfl⟩ := one h
    exact zh_alen hd rfl
  | iaload =>
    obtain ⟨rfl, rfl⟩ := one h
    refine zh_ald (ts := fun t => Nat.beq t 0) (nx := pc + 1) (fun t ht => ?_) (fun {t} ht {p l e R s m args below meth c H locs cells slots Q ls rest tys ws q0 t0 a cA n f i} hx hb hK hP h1 h2 h3 kk => ?_) (fun {t} ht {p l e R s m args below meth c H locs cells slots Q ls rest A a n f i} hx hb hT hS h3 kk => ?_)
    · have e : t = 0 := Nat.eq_of_beq_eq_true ht
      omega
    · have e : t = 0 := Nat.eq_of_beq_eq_true ht
      subst e
      exact va_iald hx hb hK hP q0 t0 h1 h2 h3 hd kk
    · have e : t = 0 := Nat.eq_of_beq_eq_true ht
      subst e
      exact va_ti hx hb hT hS h3 rfl hd kk
  | baload =>
    obtain ⟨rfl, rfl⟩ := one h
    refine zh_ald (fun t ht => ?_) (fun {t} ht {p l e R s m args below meth c H locs cells slots Q ls rest tys ws q0 t0 a cA n f i} hx hb hK hP h1 h2 h3 kk => ?_) (fun {t} ht {p l e R s m args below meth c H locs cells slots Q ls rest A a n f i} hx hb hT hS h3 kk => ?_)
    · rcases Bool.or_eq_true_iff.mp (show (Nat.beq t 1 || Nat.beq t 2) = true from ht) with z | z
      · have e : t = 1 := Nat.eq_of_beq_eq_true z
        omega
      · have e : t = 2 := Nat.eq_of_beq_eq_true z
        omega
    · rcases Bool.or_eq_true_iff.mp (show (Nat.beq t 1 || Nat.beq t 2) = true from ht) with z | z
      · have e : t = 1 := Nat.eq_of_beq_eq_true z
        subst e
        exact va_bald hx hb hK hP q0 t0 h1 h2 h3 hd kk
      · have e : t = 2 := Nat.eq_of_beq_eq_true z
        subst e
        exact va_zald hx hb hK hP q0 t0 h1 h2 h3 hd kk
    · rcases Bool.or_eq_true_iff.mp (show (Nat.beq t 1 || Nat.beq t 2) = true from ht) with z | z
      · have e : t = 1 := Nat.eq_of_beq_eq_true z
        subst e
        exact va_tb hx hb hT hS h3 rfl hd kk
      · have e : t = 2 := Nat.eq_of_beq_eq_true z
        subst e
        exact va_tz hx hb hT hS h3 rfl hd kk
  | iastore =>
    obtain ⟨rfl, rfl⟩ := one h
    refine zh_ast (ts := fun t => Nat.beq t 0) (nx := pc + 1) (fun t ht => ?_) (fun {t} ht {p l e R s m args below meth c H locs cells slots Q ls rest tys ws A q0 t0 a cA n f i x} hx hb hK hP hD hS h1 h2 h3 kk => ?_)
    · have e : t = 0 := Nat.eq_of_beq_eq_true ht
      omega
    · have e : t = 0 := Nat.eq_of_beq_eq_true ht
      subst e
      exact va_iast hx hb hK hP hD hS q0 t0 h1 h2 h3 hd kk
  | bastore =>
    obtain ⟨rfl, rfl⟩ := one h
    refine zh_ast (fun t ht => ?_) (fun {t} ht {p l e R s m args below meth c H locs cells slots Q ls rest tys ws A q0 t0 a cA n f i x} hx hb hK hP hD hS h1 h2 h3 kk => ?_)
    · rcases Bool.or_eq_true_iff.mp (show (Nat.beq t 1 || Nat.beq t 2) = true from ht) with z | z
      · have e : t = 1 := Nat.eq_of_beq_eq_true z
        omega
      · have e : t = 2 := Nat.eq_of_beq_eq_true z
        omega
    · rcases Bool.or_eq_true_iff.mp (show (Nat.beq t 1 || Nat.beq t 2) = true from ht) with z | z
      · have e : t = 1 := Nat.eq_of_beq_eq_true z
        subst e
        exact va_bast hx hb hK hP hD hS q0 t0 h1 h2 h3 hd kk
      · have e : t = 2 := Nat.eq_of_beq_eq_true z
        subst e
        exact va_zast hx hb hK hP hD hS q0 t0 h1 h2 h3 hd kk
  | lastore =>
    obtain ⟨rfl, rfl⟩ := one h
    exact zh_lst hd rfl
  | invokevirtual idx =>
    obtain ⟨h1, hz⟩ := Bool.and_eq_true_iff.mp h
    have h1 : len = 3 := of_decide_eq_true h1
    subst h1
    exact zs_call hT hd (Or.inl ⟨rfl, rfl⟩) hz
  | invokestatic idx =>
    obtain ⟨h1, hz⟩ := Bool.and_eq_true_iff.mp h
    have h1 : len = 3 := of_decide_eq_true h1
    subst h1
    exact zs_call hT hd (Or.inr (Or.inl ⟨rfl, rfl⟩)) hz
  | invokespecial idx =>
    obtain ⟨h1, hz⟩ := Bool.and_eq_true_iff.mp h
    have h1 : len = 3 := of_decide_eq_true h1
    subst h1
    exact zs_call hT hd (Or.inr (Or.inr ⟨rfl, rfl⟩)) hz
  | ireturn =>
    obtain ⟨h1, hz⟩ := Bool.and_eq_true_iff.mp h
    have h1 : len = 1 := of_decide_eq_true h1
    subst h1
    refine n1 _ _ hz fun t hi => ?_
    exact zh_ret hd (zx_rkB_ok hi)
  | lreturn =>
    obtain ⟨rfl, h2⟩ := of_decide_eq_true (show decide (len = 1 ∧ (zx_info k).2.1 = some .long) = true from h)
    exact zh_lret hd h2
  | return_ =>
    obtain ⟨rfl, h2⟩ := of_decide_eq_true (show decide (len = 1 ∧ (zx_info k).2.1 = none) = true from h)
    exact zh_vret hd h2
  | _ => cases h
theorem zs_E (hT : zk_t) {e : zx_RI} (h : zx_ok k pc e = true) : zy_Hok xa ρ ex D k pc (zx_h xa e) := by
  obtain ⟨i, len, nx, aux⟩ := e
  by_cases hi : i = .nop
  · subst hi
    exact zh_bad
  · have h2 : (decide (decode (zx_bys k) pc = .ok (i, len)) && zx_okI k pc i len nx aux) = true := by
      cases i <;> first | exact h | exact absurd rfl hi
    obtain ⟨h3, h4⟩ := Bool.and_eq_true_iff.mp h2
    exact zs_I hT (of_decide_eq_true h3) h4
/-- all rows of a method are checked -/
def zk_a : Prop := ∀ (k pc : Nat) (e : zx_RI), (zx_code.getD k [])[pc]? = some e → zx_ok k pc e = true
theorem zs_ent (hT : zk_t) (hA : zk_a) : zy_Hok xa ρ ex D k pc (zx_ent xa k pc) := by
  unfold zx_ent
  cases h : (zx_code.getD k [])[pc]? with
  | none => exact zh_bad
  | some e => exact zs_E hT (hA k pc e h)
theorem zs_run (hT : zk_t) (hA : zk_a) : ∀ n, zy_Snd xa ρ ex D (zx_run xa n)
  | 0 => by
    intro fr g w cs sl lo st pc outs h
    cases h
  | n + 1 => by
    intro fr g w cs sl lo st pc outs h
    have h : cond (Nat.beq pc fr.2.2.1) (some [(g, w, .inr (cs, sl, lo, st))]) (zx_ent xa fr.2.1 pc (zx_run xa n) fr g w cs sl lo st pc) = some outs := h
    cases hb : Nat.beq pc fr.2.2.1 with
    | false =>
      rw [hb] at h
      intro p l e2 R s m args below meth cd A as tys ws H locs ls sv Q Cx Dy hl hs hret
      exact zs_ent hT hA (zx_run xa n) (zs_run hT hA n) fr g w cs sl lo st outs rfl h Cx Dy hl hs hret
    | true =>
      rw [hb] at h
      have e := Nat.eq_of_beq_eq_true hb
      cases h
      intro p l e2 R s m args below meth cd A as tys ws H locs ls sv Q Cx Dy hl hs hret
      rw [e]
      exact (hret (g, w, .inr (cs, sl, lo, st)) List.mem_cons_self as tys ws H locs zy_p.rf).2 cs sl lo st rfl ls sv Dy hl hs
end ZZ
end
section
/-! the tables are checked, by program (wip/p1/gen2.py) -/
def zy_dv (a : zx_V) : Value := match a with
  | .inl n => .int (Int32.ofNat n)
  | .inr (.inr (.inl n)) => .long (Int64.ofNat n)
  | _ => .null
def zx_isD (a : zx_V) : Bool := match a with
  | .inl _ => true
  | .inr (.inl none) => true
  | .inr (.inr (.inl _)) => true
  | _ => false
theorem zy_dvs {ρ : Nat → Int32} {ex : Nat → Value} {as : List Nat} : ∀ {l : List zx_V}, l.all zx_isD = true → zy_s ρ ex as l (l.map zy_dv)
  | [], _ => trivial
  | a :: r, h => by
    obtain ⟨h1, h2⟩ := Bool.and_eq_true_iff.mp (show (zx_isD a && r.all zx_isD) = true from h)
    refine ⟨?_, zy_dvs h2⟩
    match a, h1 with
    | .inl _, _ => exact rfl
    | .inr (.inl none), _ => exact rfl
    | .inr (.inr (.inl _)), _ => exact rfl
theorem zk_one {ci : Nat} {C : String} {T : u_T} {N : Nat} {ty : Nat → FieldType} (ps : List Nat) (hc : zx_cl[ci]? = some (C, T, N)) (h1 : u_ws C T N = ps.filterMap (fun i => lw_tbl[i]?)) (h2 : (u_ws C T N).all goodWord = true) (h3 : ∀ a, a < N → ∀ b, b < N → a ≠ b → (T a).2.1 ≠ (T b).2.1) (h4 : ∀ j, j < N → parseFieldDescriptor (T j).2.2.1 = some (ty j)) (h5 : ∀ j, j < N → defaultValue (ty j) = vp_V ((zx_dfl.getD ci []).map zy_dv) j) (h6 : (zx_dfl.getD ci []).all zx_isD = true) : zk_cl ci := by
  intro C' T' N' hc'
  rw [hc] at hc'
  cases hc'
  refine ⟨fun w hw => ?_, h3, ty, h4, _, h5, fun ρ ex as => zy_dvs h6⟩
  have g := List.all_eq_true.mp h2 w hw
  rw [h1] at hw
  obtain ⟨i, -, hi⟩ := List.mem_filterMap.mp hw
  exact List.mem_filter.mpr ⟨List.mem_of_getElem? hi, g⟩
set_option maxRecDepth 100000 in
theorem zk_c0 : zk_cl 0 := zk_one (C := "DeckChairs$Duel") (T := zx_T0) (N := 4) (ty := zx_y0) [530, 532, 534, 536] rfl (by decide +kernel) (by decide +kernel) (by decide +kernel) (by decide +kernel) (by decide +kernel) (by decide +kernel)
set_option maxRecDepth 100000 in
theorem zk_c1 : zk_cl 1 := zk_one (C := "DeckChairs$Formula") (T := zx_T1) (N := 7) (ty := zx_y1) [288, 290, 292, 294, 296, 298, 300] rfl (by decide +kernel) (by decide +kernel) (by decide +kernel) (by decide +kernel) (by decide +kernel) (by decide +kernel)
set_option maxRecDepth 100000 in
theorem zk_c2 : zk_cl 2 := zk_one (C := "DeckChairs$Guesses") (T := zx_T2) (N := 11) (ty := zx_y2) [558, 560, 562, 564, 566, 568, 570, 572, 574, 576, 578] rfl (by decide +kernel) (by decide +kernel) (by decide +kernel) (by decide +kernel) (by decide +kernel) (by decide +kernel)
set_option maxRecDepth 100000 in
theorem zk_c3 : zk_cl 3 := zk_one (C := "DeckChairs$Hinge") (T := zx_T3) (N := 2) (ty := zx_y3) [471, 473] rfl (by decide +kernel) (by decide +kernel) (by decide +kernel) (by decide +kernel) (by decide +kernel) (by decide +kernel)
set_option maxRecDepth 100000 in
theorem zk_c4 : zk_cl 4 := zk_one (C := "DeckChairs$Parser") (T := zx_T4) (N := 6) (ty := zx_y4) [253, 255, 257, 259, 261, 263] rfl (by decide +kernel) (by decide +kernel) (by decide +kernel) (by decide +kernel) (by decide +kernel) (by decide +kernel)
set_option maxRecDepth 100000 in
theorem zk_c5 : zk_cl 5 := zk_one (C := "DeckChairs$Past") (T := zx_T5) (N := 3) (ty := zx_y5) [438, 440, 442] rfl (by decide +kernel) (by decide +kernel) (by decide +kernel) (by decide +kernel) (by decide +kernel) (by decide +kernel)
set_option maxRecDepth 100000 in
theorem zk_c6 : zk_cl 6 := zk_one (C := "DeckChairs$Scene") (T := zx_T6) (N := 9) (ty := zx_y6) [395, 397, 399, 401, 403, 405, 407, 409, 411] rfl (by decide +kernel) (by decide +kernel) (by decide +kernel) (by decide +kernel) (by decide +kernel) (by decide +kernel)
set_option maxRecDepth 100000 in
theorem zk_c7 : zk_cl 7 := zk_one (C := "DeckChairs$Seater") (T := zx_T7) (N := 11) (ty := zx_y7) [495, 497, 499, 501, 503, 505, 507, 509, 511, 513, 515] rfl (by decide +kernel) (by decide +kernel) (by decide +kernel) (by decide +kernel) (by decide +kernel) (by decide +kernel)
set_option maxRecDepth 100000 in
theorem zk_c8 : zk_cl 8 := zk_one (C := "DeckChairs$Shelf") (T := zx_T8) (N := 1) (ty := zx_y8) [430] rfl (by decide +kernel) (by decide +kernel) (by decide +kernel) (by decide +kernel) (by decide +kernel) (by decide +kernel)
set_option maxRecDepth 100000 in
theorem zk_c9 : zk_cl 9 := zk_one (C := "DeckChairs$Tokens") (T := zx_T9) (N := 8) (ty := zx_y9) [225, 227, 229, 231, 233, 235, 237, 239] rfl (by decide +kernel) (by decide +kernel) (by decide +kernel) (by decide +kernel) (by decide +kernel) (by decide +kernel)
set_option maxRecDepth 100000 in
theorem zk_c10 : zk_cl 10 := zk_one (C := "DeckChairs$Told") (T := zx_T10) (N := 13) (ty := zx_y10) [344, 346, 348, 350, 352, 354, 356, 358, 360, 362, 364, 366, 368] rfl (by decide +kernel) (by decide +kernel) (by decide +kernel) (by decide +kernel) (by decide +kernel) (by decide +kernel)
set_option maxRecDepth 100000 in
theorem zk_c11 : zk_cl 11 := zk_one (C := "DeckChairs") (T := zx_T11) (N := 16) (ty := zx_y11) [646, 648, 650, 652, 654, 656, 658, 660, 662, 664, 666, 668, 670, 672, 674, 676] rfl (by decide +kernel) (by decide +kernel) (by decide +kernel) (by decide +kernel) (by decide +kernel) (by decide +kernel)
set_option maxRecDepth 100000 in
theorem zk_c12 : zk_cl 12 := zk_one (C := "DeckChairsModel") (T := zx_T12) (N := 60) (ty := zx_y12) [1445, 1447, 1449, 1451, 1453, 1455, 1457, 1459, 1461, 1463, 1465, 1467, 1469, 1471, 1473, 1475, 1477, 1479, 1481, 1483, 1485, 1487, 1489, 1491, 1493, 1495, 1497, 1499, 1501, 1503, 1505, 1507, 1509, 1511, 1513, 1515, 1517, 1519, 1521, 1523, 1525, 1527, 1529, 1531, 1533, 1535, 1537, 1539, 1541, 1543, 1545, 1547, 1549, 1551, 1553, 1555, 1557, 1559, 1561, 1563] rfl (by decide +kernel) (by decide +kernel) (by decide +kernel) (by decide +kernel) (by decide +kernel) (by decide +kernel)
theorem zk_cls : ∀ ci C T N, zx_cl[ci]? = some (C, T, N) → zk_cl ci := by
  intro ci C T N h
  match ci, h with
  | 0, _ => exact zk_c0
  | 1, _ => exact zk_c1
  | 2, _ => exact zk_c2
  | 3, _ => exact zk_c3
  | 4, _ => exact zk_c4
  | 5, _ => exact zk_c5
  | 6, _ => exact zk_c6
  | 7, _ => exact zk_c7
  | 8, _ => exact zk_c8
  | 9, _ => exact zk_c9
  | 10, _ => exact zk_c10
  | 11, _ => exact zk_c11
  | 12, _ => exact zk_c12
  | n + 13, h => cases h
theorem zk_tt : zk_t := ⟨zk_cls, zx_w_ok (i := 244) (by decide +kernel), zx_w_ok (i := 242) (by decide +kernel), zx_w_ok (i := 476) (by decide +kernel), zx_w_ok (i := 243) (by decide +kernel), zx_w_ok (i := 143) (by decide +kernel), zx_w_ok (i := 144) (by decide +kernel), zx_w_ok (i := 603) (by decide +kernel), zx_w_ok (i := 602) (by decide +kernel), zx_w_ok (i := 133) (by decide +kernel)⟩
def zx_okL (k : Nat) : List zx_RI → Nat → Prop
  | [], _ => True
  | e :: r, pc => zx_ok k pc e = true ∧ zx_okL k r (pc + 1)
theorem zx_okL_at {k : Nat} : ∀ {l : List zx_RI} {n : Nat}, zx_okL k l n → ∀ (i : Nat) (e : zx_RI), l[i]? = some e → zx_ok k (n + i) e = true
  | a :: r, n, ⟨h1, h2⟩, 0, e, he => by cases he; exact h1
  | a :: r, n, ⟨h1, h2⟩, i + 1, e, he => by
    have z := zx_okL_at h2 i e he
    rw [show n + (i + 1) = n + 1 + i by omega]
    exact z
noncomputable def zx_okB (k : Nat) (l : List zx_RI) : Nat → Bool := List.rec (motive := fun _ => Nat → Bool) (fun _ => true) (fun e _ ih pc => zx_n pc fun pc => cond (zx_ok k pc e) (ih (Nat.succ pc)) false) l
theorem zx_okB_ok {k : Nat} : ∀ {l : List zx_RI} {n : Nat}, zx_okB k l n = true → zx_okL k l n
  | [], _, _ => trivial
  | e :: r, n, h => by
    have h : zx_n n (fun pc => cond (zx_ok k pc e) (zx_okB k r (Nat.succ pc)) false) = true := h
    rw [zx_n_eq] at h
    cases hb : zx_ok k n e with
    | false => rw [hb] at h; cases h
    | true => rw [hb] at h; exact ⟨hb, zx_okB_ok h⟩
def zx_okA : List (List zx_RI) → Nat → Prop
  | [], _ => True
  | c :: r, k => zx_okL k c 0 ∧ zx_okA r (k + 1)
theorem zx_okA_at : ∀ {l : List (List zx_RI)} {n : Nat}, zx_okA l n → ∀ i, zx_okL (n + i) (l.getD i []) 0
  | [], n, _, i => by simp [zx_okL]
  | c :: r, n, ⟨h1, h2⟩, 0 => h1
  | c :: r, n, ⟨h1, h2⟩, i + 1 => by
    have z := zx_okA_at h2 i
    rw [show n + (i + 1) = n + 1 + i by omega]
    exact z
theorem zx_okL_ap {k : Nat} : ∀ {a b : List zx_RI} {n m : Nat}, zx_okL k a n → n + a.length = m → zx_okL k b m → zx_okL k (a ++ b) n
  | [], b, n, m, _, h, h2 => by
    have e : n = m := by simpa using h
    subst e
    exact h2
  | x :: a, b, n, m, ⟨h0, h1⟩, h, h2 => ⟨h0, zx_okL_ap h1 (by rw [List.length_cons] at h; omega) h2⟩
set_option maxRecDepth 100000 in
theorem zk_m0_0 : zx_okL 0 zx_c0_0 0 := zx_okB_ok (by decide +kernel)
set_option maxRecDepth 100000 in
theorem zk_m0_1 : zx_okL 0 zx_c0_1 64 := zx_okB_ok (by decide +kernel)
set_option maxRecDepth 100000 in
theorem zk_m0_2 : zx_okL 0 zx_c0_2 128 := zx_okB_ok (by decide +kernel)
set_option maxRecDepth 100000 in
theorem zk_m0_3 : zx_okL 0 zx_c0_3 192 := zx_okB_ok (by decide +kernel)
set_option maxRecDepth 100000 in
theorem zk_m0_4 : zx_okL 0 zx_c0_4 256 := zx_okB_ok (by decide +kernel)
set_option maxRecDepth 100000 in
theorem zk_m0_5 : zx_okL 0 zx_c0_5 320 := zx_okB_ok (by decide +kernel)
set_option maxRecDepth 100000 in
theorem zk_m0_6 : zx_okL 0 zx_c0_6 384 := zx_okB_ok (by decide +kernel)
set_option maxRecDepth 100000 in
theorem zk_m0_7 : zx_okL 0 zx_c0_7 448 := zx_okB_ok (by decide +kernel)
set_option maxRecDepth 100000 in
theorem zk_m0_8 : zx_okL 0 zx_c0_8 512 := zx_okB_ok (by decide +kernel)
set_option maxRecDepth 100000 in
theorem zk_m0_9 : zx_okL 0 zx_c0_9 576 := zx_okB_ok (by decide +kernel)
set_option maxRecDepth 100000 in
theorem zk_m0_10 : zx_okL 0 zx_c0_10 640 := zx_okB_ok (by decide +kernel)
set_option maxRecDepth 100000 in
theorem zk_m0_11 : zx_okL 0 zx_c0_11 704 := zx_okB_ok (by decide +kernel)
set_option maxRecDepth 100000 in
theorem zk_m0_12 : zx_okL 0 zx_c0_12 768 := zx_okB_ok (by decide +kernel)
set_option maxRecDepth 100000 in
theorem zk_m0_13 : zx_okL 0 zx_c0_13 832 := zx_okB_ok (by decide +kernel)
set_option maxRecDepth 100000 in
theorem zk_m0_14 : zx_okL 0 zx_c0_14 896 := zx_okB_ok (by decide +kernel)
set_option maxRecDepth 100000 in
theorem zk_m0_15 : zx_okL 0 zx_c0_15 960 := zx_okB_ok (by decide +kernel)
set_option maxRecDepth 100000 in
theorem zk_m0_16 : zx_okL 0 zx_c0_16 1024 := zx_okB_ok (by decide +kernel)
set_option maxRecDepth 100000 in
theorem zk_m0_17 : zx_okL 0 zx_c0_17 1088 := zx_okB_ok (by decide +kernel)
set_option maxRecDepth 100000 in
theorem zk_m0_18 : zx_okL 0 zx_c0_18 1152 := zx_okB_ok (by decide +kernel)
set_option maxRecDepth 100000 in
theorem zk_m0_19 : zx_okL 0 zx_c0_19 1216 := zx_okB_ok (by decide +kernel)
set_option maxRecDepth 100000 in
theorem zk_m0_20 : zx_okL 0 zx_c0_20 1280 := zx_okB_ok (by decide +kernel)
set_option maxRecDepth 100000 in
theorem zk_m0_21 : zx_okL 0 zx_c0_21 1344 := zx_okB_ok (by decide +kernel)
set_option maxRecDepth 100000 in
theorem zk_m0_22 : zx_okL 0 zx_c0_22 1408 := zx_okB_ok (by decide +kernel)
theorem zk_m0 : zx_okL 0 zx_c0 0 := zx_okL_ap zk_m0_0 rfl (zx_okL_ap zk_m0_1 rfl (zx_okL_ap zk_m0_2 rfl (zx_okL_ap zk_m0_3 rfl (zx_okL_ap zk_m0_4 rfl (zx_okL_ap zk_m0_5 rfl (zx_okL_ap zk_m0_6 rfl (zx_okL_ap zk_m0_7 rfl (zx_okL_ap zk_m0_8 rfl (zx_okL_ap zk_m0_9 rfl (zx_okL_ap zk_m0_10 rfl (zx_okL_ap zk_m0_11 rfl (zx_okL_ap zk_m0_12 rfl (zx_okL_ap zk_m0_13 rfl (zx_okL_ap zk_m0_14 rfl (zx_okL_ap zk_m0_15 rfl (zx_okL_ap zk_m0_16 rfl (zx_okL_ap zk_m0_17 rfl (zx_okL_ap zk_m0_18 rfl (zx_okL_ap zk_m0_19 rfl (zx_okL_ap zk_m0_20 rfl (zx_okL_ap zk_m0_21 rfl (zk_m0_22))))))))))))))))))))))
set_option maxRecDepth 100000 in
theorem zk_m1 : zx_okL 1 zx_c1 0 := zx_okB_ok (by decide +kernel)
set_option maxRecDepth 100000 in
theorem zk_m2 : zx_okL 2 zx_c2 0 := zx_okB_ok (by decide +kernel)
set_option maxRecDepth 100000 in
theorem zk_m3 : zx_okL 3 zx_c3 0 := zx_okB_ok (by decide +kernel)
set_option maxRecDepth 100000 in
theorem zk_m4 : zx_okL 4 zx_c4 0 := zx_okB_ok (by decide +kernel)
set_option maxRecDepth 100000 in
theorem zk_m5 : zx_okL 5 zx_c5 0 := zx_okB_ok (by decide +kernel)
set_option maxRecDepth 100000 in
theorem zk_m6 : zx_okL 6 zx_c6 0 := zx_okB_ok (by decide +kernel)
set_option maxRecDepth 100000 in
theorem zk_m7 : zx_okL 7 zx_c7 0 := zx_okB_ok (by decide +kernel)
set_option maxRecDepth 100000 in
theorem zk_m8 : zx_okL 8 zx_c8 0 := zx_okB_ok (by decide +kernel)
set_option maxRecDepth 100000 in
theorem zk_m9 : zx_okL 9 zx_c9 0 := zx_okB_ok (by decide +kernel)
set_option maxRecDepth 100000 in
theorem zk_m10 : zx_okL 10 zx_c10 0 := zx_okB_ok (by decide +kernel)
set_option maxRecDepth 100000 in
theorem zk_m11 : zx_okL 11 zx_c11 0 := zx_okB_ok (by decide +kernel)
set_option maxRecDepth 100000 in
theorem zk_m12 : zx_okL 12 zx_c12 0 := zx_okB_ok (by decide +kernel)
set_option maxRecDepth 100000 in
theorem zk_m13 : zx_okL 13 zx_c13 0 := zx_okB_ok (by decide +kernel)
set_option maxRecDepth 100000 in
theorem zk_m14 : zx_okL 14 zx_c14 0 := zx_okB_ok (by decide +kernel)
set_option maxRecDepth 100000 in
theorem zk_m15 : zx_okL 15 zx_c15 0 := zx_okB_ok (by decide +kernel)
set_option maxRecDepth 100000 in
theorem zk_m16 : zx_okL 16 zx_c16 0 := zx_okB_ok (by decide +kernel)
set_option maxRecDepth 100000 in
theorem zk_m17 : zx_okL 17 zx_c17 0 := zx_okB_ok (by decide +kernel)
set_option maxRecDepth 100000 in
theorem zk_m18 : zx_okL 18 zx_c18 0 := zx_okB_ok (by decide +kernel)
set_option maxRecDepth 100000 in
theorem zk_m19 : zx_okL 19 zx_c19 0 := zx_okB_ok (by decide +kernel)
set_option maxRecDepth 100000 in
theorem zk_m20 : zx_okL 20 zx_c20 0 := zx_okB_ok (by decide +kernel)
set_option maxRecDepth 100000 in
theorem zk_m21 : zx_okL 21 zx_c21 0 := zx_okB_ok (by decide +kernel)
set_option maxRecDepth 100000 in
theorem zk_m22 : zx_okL 22 zx_c22 0 := zx_okB_ok (by decide +kernel)
set_option maxRecDepth 100000 in
theorem zk_m23 : zx_okL 23 zx_c23 0 := zx_okB_ok (by decide +kernel)
set_option maxRecDepth 100000 in
theorem zk_m24 : zx_okL 24 zx_c24 0 := zx_okB_ok (by decide +kernel)
set_option maxRecDepth 100000 in
theorem zk_m25 : zx_okL 25 zx_c25 0 := zx_okB_ok (by decide +kernel)
set_option maxRecDepth 100000 in
theorem zk_m26 : zx_okL 26 zx_c26 0 := zx_okB_ok (by decide +kernel)
set_option maxRecDepth 100000 in
theorem zk_m27 : zx_okL 27 zx_c27 0 := zx_okB_ok (by decide +kernel)
set_option maxRecDepth 100000 in
theorem zk_m28 : zx_okL 28 zx_c28 0 := zx_okB_ok (by decide +kernel)
set_option maxRecDepth 100000 in
theorem zk_m29 : zx_okL 29 zx_c29 0 := zx_okB_ok (by decide +kernel)
set_option maxRecDepth 100000 in
theorem zk_m30 : zx_okL 30 zx_c30 0 := zx_okB_ok (by decide +kernel)
set_option maxRecDepth 100000 in
theorem zk_m31 : zx_okL 31 zx_c31 0 := zx_okB_ok (by decide +kernel)
set_option maxRecDepth 100000 in
theorem zk_m32 : zx_okL 32 zx_c32 0 := zx_okB_ok (by decide +kernel)
set_option maxRecDepth 100000 in
theorem zk_m33 : zx_okL 33 zx_c33 0 := zx_okB_ok (by decide +kernel)
set_option maxRecDepth 100000 in
theorem zk_m34 : zx_okL 34 zx_c34 0 := zx_okB_ok (by decide +kernel)
set_option maxRecDepth 100000 in
theorem zk_m35 : zx_okL 35 zx_c35 0 := zx_okB_ok (by decide +kernel)
set_option maxRecDepth 100000 in
theorem zk_m36 : zx_okL 36 zx_c36 0 := zx_okB_ok (by decide +kernel)
set_option maxRecDepth 100000 in
theorem zk_m37 : zx_okL 37 zx_c37 0 := zx_okB_ok (by decide +kernel)
set_option maxRecDepth 100000 in
theorem zk_m38 : zx_okL 38 zx_c38 0 := zx_okB_ok (by decide +kernel)
set_option maxRecDepth 100000 in
theorem zk_m39 : zx_okL 39 zx_c39 0 := zx_okB_ok (by decide +kernel)
set_option maxRecDepth 100000 in
theorem zk_m40 : zx_okL 40 zx_c40 0 := zx_okB_ok (by decide +kernel)
set_option maxRecDepth 100000 in
theorem zk_m41 : zx_okL 41 zx_c41 0 := zx_okB_ok (by decide +kernel)
set_option maxRecDepth 100000 in
theorem zk_m42 : zx_okL 42 zx_c42 0 := zx_okB_ok (by decide +kernel)
set_option maxRecDepth 100000 in
theorem zk_m43 : zx_okL 43 zx_c43 0 := zx_okB_ok (by decide +kernel)
set_option maxRecDepth 100000 in
theorem zk_m44 : zx_okL 44 zx_c44 0 := zx_okB_ok (by decide +kernel)
set_option maxRecDepth 100000 in
theorem zk_m45 : zx_okL 45 zx_c45 0 := zx_okB_ok (by decide +kernel)
set_option maxRecDepth 100000 in
theorem zk_m46 : zx_okL 46 zx_c46 0 := zx_okB_ok (by decide +kernel)
set_option maxRecDepth 100000 in
theorem zk_m47 : zx_okL 47 zx_c47 0 := zx_okB_ok (by decide +kernel)
set_option maxRecDepth 100000 in
theorem zk_m48 : zx_okL 48 zx_c48 0 := zx_okB_ok (by decide +kernel)
set_option maxRecDepth 100000 in
theorem zk_m49 : zx_okL 49 zx_c49 0 := zx_okB_ok (by decide +kernel)
set_option maxRecDepth 100000 in
theorem zk_m50 : zx_okL 50 zx_c50 0 := zx_okB_ok (by decide +kernel)
set_option maxRecDepth 100000 in
theorem zk_m51 : zx_okL 51 zx_c51 0 := zx_okB_ok (by decide +kernel)
set_option maxRecDepth 100000 in
theorem zk_m52 : zx_okL 52 zx_c52 0 := zx_okB_ok (by decide +kernel)
set_option maxRecDepth 100000 in
theorem zk_m53 : zx_okL 53 zx_c53 0 := zx_okB_ok (by decide +kernel)
set_option maxRecDepth 100000 in
theorem zk_m54 : zx_okL 54 zx_c54 0 := zx_okB_ok (by decide +kernel)
set_option maxRecDepth 100000 in
theorem zk_m55 : zx_okL 55 zx_c55 0 := zx_okB_ok (by decide +kernel)
set_option maxRecDepth 100000 in
theorem zk_m56 : zx_okL 56 zx_c56 0 := zx_okB_ok (by decide +kernel)
set_option maxRecDepth 100000 in
theorem zk_m57 : zx_okL 57 zx_c57 0 := zx_okB_ok (by decide +kernel)
set_option maxRecDepth 100000 in
theorem zk_m58 : zx_okL 58 zx_c58 0 := zx_okB_ok (by decide +kernel)
set_option maxRecDepth 100000 in
theorem zk_m59 : zx_okL 59 zx_c59 0 := zx_okB_ok (by decide +kernel)
set_option maxRecDepth 100000 in
theorem zk_m60 : zx_okL 60 zx_c60 0 := zx_okB_ok (by decide +kernel)
set_option maxRecDepth 100000 in
theorem zk_m61 : zx_okL 61 zx_c61 0 := zx_okB_ok (by decide +kernel)
set_option maxRecDepth 100000 in
theorem zk_m62 : zx_okL 62 zx_c62 0 := zx_okB_ok (by decide +kernel)
set_option maxRecDepth 100000 in
theorem zk_m63 : zx_okL 63 zx_c63 0 := zx_okB_ok (by decide +kernel)
set_option maxRecDepth 100000 in
theorem zk_m64 : zx_okL 64 zx_c64 0 := zx_okB_ok (by decide +kernel)
set_option maxRecDepth 100000 in
theorem zk_m65 : zx_okL 65 zx_c65 0 := zx_okB_ok (by decide +kernel)
set_option maxRecDepth 100000 in
theorem zk_m66 : zx_okL 66 zx_c66 0 := zx_okB_ok (by decide +kernel)
set_option maxRecDepth 100000 in
theorem zk_m67 : zx_okL 67 zx_c67 0 := zx_okB_ok (by decide +kernel)
set_option maxRecDepth 100000 in
theorem zk_m68 : zx_okL 68 zx_c68 0 := zx_okB_ok (by decide +kernel)
set_option maxRecDepth 100000 in
theorem zk_m69 : zx_okL 69 zx_c69 0 := zx_okB_ok (by decide +kernel)
set_option maxRecDepth 100000 in
theorem zk_m70 : zx_okL 70 zx_c70 0 := zx_okB_ok (by decide +kernel)
set_option maxRecDepth 100000 in
theorem zk_m71 : zx_okL 71 zx_c71 0 := zx_okB_ok (by decide +kernel)
set_option maxRecDepth 100000 in
theorem zk_m72 : zx_okL 72 zx_c72 0 := zx_okB_ok (by decide +kernel)
set_option maxRecDepth 100000 in
theorem zk_m73 : zx_okL 73 zx_c73 0 := zx_okB_ok (by decide +kernel)
set_option maxRecDepth 100000 in
theorem zk_m74 : zx_okL 74 zx_c74 0 := zx_okB_ok (by decide +kernel)
set_option maxRecDepth 100000 in
theorem zk_m75 : zx_okL 75 zx_c75 0 := zx_okB_ok (by decide +kernel)
set_option maxRecDepth 100000 in
theorem zk_m76 : zx_okL 76 zx_c76 0 := zx_okB_ok (by decide +kernel)
set_option maxRecDepth 100000 in
theorem zk_m77 : zx_okL 77 zx_c77 0 := zx_okB_ok (by decide +kernel)
set_option maxRecDepth 100000 in
theorem zk_m78 : zx_okL 78 zx_c78 0 := zx_okB_ok (by decide +kernel)
set_option maxRecDepth 100000 in
theorem zk_m79 : zx_okL 79 zx_c79 0 := zx_okB_ok (by decide +kernel)
set_option maxRecDepth 100000 in
theorem zk_m80 : zx_okL 80 zx_c80 0 := zx_okB_ok (by decide +kernel)
set_option maxRecDepth 100000 in
theorem zk_m81 : zx_okL 81 zx_c81 0 := zx_okB_ok (by decide +kernel)
set_option maxRecDepth 100000 in
theorem zk_m82 : zx_okL 82 zx_c82 0 := zx_okB_ok (by decide +kernel)
set_option maxRecDepth 100000 in
theorem zk_m83 : zx_okL 83 zx_c83 0 := zx_okB_ok (by decide +kernel)
set_option maxRecDepth 100000 in
theorem zk_m84 : zx_okL 84 zx_c84 0 := zx_okB_ok (by decide +kernel)
set_option maxRecDepth 100000 in
theorem zk_m85 : zx_okL 85 zx_c85 0 := zx_okB_ok (by decide +kernel)
set_option maxRecDepth 100000 in
theorem zk_m86 : zx_okL 86 zx_c86 0 := zx_okB_ok (by decide +kernel)
set_option maxRecDepth 100000 in
theorem zk_m87 : zx_okL 87 zx_c87 0 := zx_okB_ok (by decide +kernel)
set_option maxRecDepth 100000 in
theorem zk_m88 : zx_okL 88 zx_c88 0 := zx_okB_ok (by decide +kernel)
set_option maxRecDepth 100000 in
theorem zk_m89 : zx_okL 89 zx_c89 0 := zx_okB_ok (by decide +kernel)
set_option maxRecDepth 100000 in
theorem zk_m90 : zx_okL 90 zx_c90 0 := zx_okB_ok (by decide +kernel)
set_option maxRecDepth 100000 in
theorem zk_m91 : zx_okL 91 zx_c91 0 := zx_okB_ok (by decide +kernel)
set_option maxRecDepth 100000 in
theorem zk_m92 : zx_okL 92 zx_c92 0 := zx_okB_ok (by decide +kernel)
set_option maxRecDepth 100000 in
theorem zk_m93 : zx_okL 93 zx_c93 0 := zx_okB_ok (by decide +kernel)
set_option maxRecDepth 100000 in
theorem zk_m94 : zx_okL 94 zx_c94 0 := zx_okB_ok (by decide +kernel)
set_option maxRecDepth 100000 in
theorem zk_m95 : zx_okL 95 zx_c95 0 := zx_okB_ok (by decide +kernel)
set_option maxRecDepth 100000 in
theorem zk_m96 : zx_okL 96 zx_c96 0 := zx_okB_ok (by decide +kernel)
set_option maxRecDepth 100000 in
theorem zk_m97 : zx_okL 97 zx_c97 0 := zx_okB_ok (by decide +kernel)
set_option maxRecDepth 100000 in
theorem zk_m98 : zx_okL 98 zx_c98 0 := zx_okB_ok (by decide +kernel)
set_option maxRecDepth 100000 in
theorem zk_m99 : zx_okL 99 zx_c99 0 := zx_okB_ok (by decide +kernel)
set_option maxRecDepth 100000 in
theorem zk_m100 : zx_okL 100 zx_c100 0 := zx_okB_ok (by decide +kernel)
set_option maxRecDepth 100000 in
theorem zk_m101 : zx_okL 101 zx_c101 0 := zx_okB_ok (by decide +kernel)
set_option maxRecDepth 100000 in
theorem zk_m102 : zx_okL 102 zx_c102 0 := zx_okB_ok (by decide +kernel)
set_option maxRecDepth 100000 in
theorem zk_m103 : zx_okL 103 zx_c103 0 := zx_okB_ok (by decide +kernel)
set_option maxRecDepth 100000 in
theorem zk_m104 : zx_okL 104 zx_c104 0 := zx_okB_ok (by decide +kernel)
set_option maxRecDepth 100000 in
theorem zk_m105 : zx_okL 105 zx_c105 0 := zx_okB_ok (by decide +kernel)
set_option maxRecDepth 100000 in
theorem zk_m106 : zx_okL 106 zx_c106 0 := zx_okB_ok (by decide +kernel)
set_option maxRecDepth 100000 in
theorem zk_m107 : zx_okL 107 zx_c107 0 := zx_okB_ok (by decide +kernel)
set_option maxRecDepth 100000 in
theorem zk_m108 : zx_okL 108 zx_c108 0 := zx_okB_ok (by decide +kernel)
set_option maxRecDepth 100000 in
theorem zk_m109 : zx_okL 109 zx_c109 0 := zx_okB_ok (by decide +kernel)
set_option maxRecDepth 100000 in
theorem zk_m110 : zx_okL 110 zx_c110 0 := zx_okB_ok (by decide +kernel)
set_option maxRecDepth 100000 in
theorem zk_m111 : zx_okL 111 zx_c111 0 := zx_okB_ok (by decide +kernel)
set_option maxRecDepth 100000 in
theorem zk_m112 : zx_okL 112 zx_c112 0 := zx_okB_ok (by decide +kernel)
set_option maxRecDepth 100000 in
theorem zk_m113 : zx_okL 113 zx_c113 0 := zx_okB_ok (by decide +kernel)
set_option maxRecDepth 100000 in
theorem zk_m114 : zx_okL 114 zx_c114 0 := zx_okB_ok (by decide +kernel)
set_option maxRecDepth 100000 in
theorem zk_m115 : zx_okL 115 zx_c115 0 := zx_okB_ok (by decide +kernel)
set_option maxRecDepth 100000 in
theorem zk_m116 : zx_okL 116 zx_c116 0 := zx_okB_ok (by decide +kernel)
set_option maxRecDepth 100000 in
theorem zk_m117 : zx_okL 117 zx_c117 0 := zx_okB_ok (by decide +kernel)
set_option maxRecDepth 100000 in
theorem zk_m118 : zx_okL 118 zx_c118 0 := zx_okB_ok (by decide +kernel)
set_option maxRecDepth 100000 in
theorem zk_m119 : zx_okL 119 zx_c119 0 := zx_okB_ok (by decide +kernel)
set_option maxRecDepth 100000 in
theorem zk_m120 : zx_okL 120 zx_c120 0 := zx_okB_ok (by decide +kernel)
set_option maxRecDepth 100000 in
theorem zk_m121 : zx_okL 121 zx_c121 0 := zx_okB_ok (by decide +kernel)
set_option maxRecDepth 100000 in
theorem zk_m122 : zx_okL 122 zx_c122 0 := zx_okB_ok (by decide +kernel)
set_option maxRecDepth 100000 in
theorem zk_m123 : zx_okL 123 zx_c123 0 := zx_okB_ok (by decide +kernel)
set_option maxRecDepth 100000 in
theorem zk_m124 : zx_okL 124 zx_c124 0 := zx_okB_ok (by decide +kernel)
set_option maxRecDepth 100000 in
theorem zk_m125 : zx_okL 125 zx_c125 0 := zx_okB_ok (by decide +kernel)
set_option maxRecDepth 100000 in
theorem zk_m126 : zx_okL 126 zx_c126 0 := zx_okB_ok (by decide +kernel)
set_option maxRecDepth 100000 in
theorem zk_m127 : zx_okL 127 zx_c127 0 := zx_okB_ok (by decide +kernel)
set_option maxRecDepth 100000 in
theorem zk_m128 : zx_okL 128 zx_c128 0 := zx_okB_ok (by decide +kernel)
set_option maxRecDepth 100000 in
theorem zk_m129 : zx_okL 129 zx_c129 0 := zx_okB_ok (by decide +kernel)
set_option maxRecDepth 100000 in
theorem zk_m130 : zx_okL 130 zx_c130 0 := zx_okB_ok (by decide +kernel)
set_option maxRecDepth 100000 in
theorem zk_m131 : zx_okL 131 zx_c131 0 := zx_okB_ok (by decide +kernel)
set_option maxRecDepth 100000 in
theorem zk_m132 : zx_okL 132 zx_c132 0 := zx_okB_ok (by decide +kernel)
set_option maxRecDepth 100000 in
theorem zk_m133 : zx_okL 133 zx_c133 0 := zx_okB_ok (by decide +kernel)
set_option maxRecDepth 100000 in
theorem zk_m134 : zx_okL 134 zx_c134 0 := zx_okB_ok (by decide +kernel)
set_option maxRecDepth 100000 in
theorem zk_m135 : zx_okL 135 zx_c135 0 := zx_okB_ok (by decide +kernel)
set_option maxRecDepth 100000 in
theorem zk_m136 : zx_okL 136 zx_c136 0 := zx_okB_ok (by decide +kernel)
set_option maxRecDepth 100000 in
theorem zk_m137 : zx_okL 137 zx_c137 0 := zx_okB_ok (by decide +kernel)
set_option maxRecDepth 100000 in
theorem zk_m138 : zx_okL 138 zx_c138 0 := zx_okB_ok (by decide +kernel)
set_option maxRecDepth 100000 in
theorem zk_m139 : zx_okL 139 zx_c139 0 := zx_okB_ok (by decide +kernel)
set_option maxRecDepth 100000 in
theorem zk_m140 : zx_okL 140 zx_c140 0 := zx_okB_ok (by decide +kernel)
set_option maxRecDepth 100000 in
theorem zk_m141 : zx_okL 141 zx_c141 0 := zx_okB_ok (by decide +kernel)
set_option maxRecDepth 100000 in
theorem zk_m142 : zx_okL 142 zx_c142 0 := zx_okB_ok (by decide +kernel)
set_option maxRecDepth 100000 in
theorem zk_m143 : zx_okL 143 zx_c143 0 := zx_okB_ok (by decide +kernel)
set_option maxRecDepth 100000 in
theorem zk_m144 : zx_okL 144 zx_c144 0 := zx_okB_ok (by decide +kernel)
set_option maxRecDepth 100000 in
theorem zk_m145 : zx_okL 145 zx_c145 0 := zx_okB_ok (by decide +kernel)
set_option maxRecDepth 100000 in
theorem zk_m146 : zx_okL 146 zx_c146 0 := zx_okB_ok (by decide +kernel)
set_option maxRecDepth 100000 in
theorem zk_m147 : zx_okL 147 zx_c147 0 := zx_okB_ok (by decide +kernel)
set_option maxRecDepth 100000 in
theorem zk_m148 : zx_okL 148 zx_c148 0 := zx_okB_ok (by decide +kernel)
set_option maxRecDepth 100000 in
theorem zk_m149 : zx_okL 149 zx_c149 0 := zx_okB_ok (by decide +kernel)
set_option maxRecDepth 100000 in
theorem zk_m150 : zx_okL 150 zx_c150 0 := zx_okB_ok (by decide +kernel)
set_option maxRecDepth 100000 in
theorem zk_m151 : zx_okL 151 zx_c151 0 := zx_okB_ok (by decide +kernel)
set_option maxRecDepth 100000 in
theorem zk_m152 : zx_okL 152 zx_c152 0 := zx_okB_ok (by decide +kernel)
set_option maxRecDepth 100000 in
theorem zk_m153 : zx_okL 153 zx_c153 0 := zx_okB_ok (by decide +kernel)
set_option maxRecDepth 100000 in
theorem zk_m154 : zx_okL 154 zx_c154 0 := zx_okB_ok (by decide +kernel)
set_option maxRecDepth 100000 in
theorem zk_m155 : zx_okL 155 zx_c155 0 := zx_okB_ok (by decide +kernel)
set_option maxRecDepth 100000 in
theorem zk_m156 : zx_okL 156 zx_c156 0 := zx_okB_ok (by decide +kernel)
set_option maxRecDepth 100000 in
theorem zk_m157 : zx_okL 157 zx_c157 0 := zx_okB_ok (by decide +kernel)
set_option maxRecDepth 100000 in
theorem zk_m158 : zx_okL 158 zx_c158 0 := zx_okB_ok (by decide +kernel)
set_option maxRecDepth 100000 in
theorem zk_m159 : zx_okL 159 zx_c159 0 := zx_okB_ok (by decide +kernel)
set_option maxRecDepth 100000 in
theorem zk_m160 : zx_okL 160 zx_c160 0 := zx_okB_ok (by decide +kernel)
set_option maxRecDepth 100000 in
theorem zk_m161 : zx_okL 161 zx_c161 0 := zx_okB_ok (by decide +kernel)
set_option maxRecDepth 100000 in
theorem zk_m162 : zx_okL 162 zx_c162 0 := zx_okB_ok (by decide +kernel)
set_option maxRecDepth 100000 in
theorem zk_m163 : zx_okL 163 zx_c163 0 := zx_okB_ok (by decide +kernel)
set_option maxRecDepth 100000 in
theorem zk_m164 : zx_okL 164 zx_c164 0 := zx_okB_ok (by decide +kernel)
set_option maxRecDepth 100000 in
theorem zk_m165 : zx_okL 165 zx_c165 0 := zx_okB_ok (by decide +kernel)
set_option maxRecDepth 100000 in
theorem zk_m166 : zx_okL 166 zx_c166 0 := zx_okB_ok (by decide +kernel)
set_option maxRecDepth 100000 in
theorem zk_m167 : zx_okL 167 zx_c167 0 := zx_okB_ok (by decide +kernel)
set_option maxRecDepth 100000 in
theorem zk_m168 : zx_okL 168 zx_c168 0 := zx_okB_ok (by decide +kernel)
set_option maxRecDepth 100000 in
theorem zk_m169 : zx_okL 169 zx_c169 0 := zx_okB_ok (by decide +kernel)
set_option maxRecDepth 100000 in
theorem zk_m170 : zx_okL 170 zx_c170 0 := zx_okB_ok (by decide +kernel)
set_option maxRecDepth 100000 in
theorem zk_m171 : zx_okL 171 zx_c171 0 := zx_okB_ok (by decide +kernel)
set_option maxRecDepth 100000 in
theorem zk_m172 : zx_okL 172 zx_c172 0 := zx_okB_ok (by decide +kernel)
set_option maxRecDepth 100000 in
theorem zk_m173 : zx_okL 173 zx_c173 0 := zx_okB_ok (by decide +kernel)
set_option maxRecDepth 100000 in
theorem zk_m174 : zx_okL 174 zx_c174 0 := zx_okB_ok (by decide +kernel)
set_option maxRecDepth 100000 in
theorem zk_m175 : zx_okL 175 zx_c175 0 := zx_okB_ok (by decide +kernel)
set_option maxRecDepth 100000 in
theorem zk_m176 : zx_okL 176 zx_c176 0 := zx_okB_ok (by decide +kernel)
set_option maxRecDepth 100000 in
theorem zk_m177 : zx_okL 177 zx_c177 0 := zx_okB_ok (by decide +kernel)
set_option maxRecDepth 100000 in
theorem zk_m178 : zx_okL 178 zx_c178 0 := zx_okB_ok (by decide +kernel)
set_option maxRecDepth 100000 in
theorem zk_m179 : zx_okL 179 zx_c179 0 := zx_okB_ok (by decide +kernel)
set_option maxRecDepth 100000 in
theorem zk_m180 : zx_okL 180 zx_c180 0 := zx_okB_ok (by decide +kernel)
set_option maxRecDepth 100000 in
theorem zk_m181 : zx_okL 181 zx_c181 0 := zx_okB_ok (by decide +kernel)
set_option maxRecDepth 100000 in
theorem zk_m182 : zx_okL 182 zx_c182 0 := zx_okB_ok (by decide +kernel)
set_option maxRecDepth 100000 in
theorem zk_m183 : zx_okL 183 zx_c183 0 := zx_okB_ok (by decide +kernel)
set_option maxRecDepth 100000 in
theorem zk_m184 : zx_okL 184 zx_c184 0 := zx_okB_ok (by decide +kernel)
set_option maxRecDepth 100000 in
theorem zk_m185 : zx_okL 185 zx_c185 0 := zx_okB_ok (by decide +kernel)
set_option maxRecDepth 100000 in
theorem zk_m186 : zx_okL 186 zx_c186 0 := zx_okB_ok (by decide +kernel)
set_option maxRecDepth 100000 in
theorem zk_m187 : zx_okL 187 zx_c187 0 := zx_okB_ok (by decide +kernel)
set_option maxRecDepth 100000 in
theorem zk_m188 : zx_okL 188 zx_c188 0 := zx_okB_ok (by decide +kernel)
set_option maxRecDepth 100000 in
theorem zk_m189 : zx_okL 189 zx_c189 0 := zx_okB_ok (by decide +kernel)
set_option maxRecDepth 100000 in
theorem zk_m190 : zx_okL 190 zx_c190 0 := zx_okB_ok (by decide +kernel)
set_option maxRecDepth 100000 in
theorem zk_m191 : zx_okL 191 zx_c191 0 := zx_okB_ok (by decide +kernel)
set_option maxRecDepth 100000 in
theorem zk_m192 : zx_okL 192 zx_c192 0 := zx_okB_ok (by decide +kernel)
set_option maxRecDepth 100000 in
theorem zk_m193 : zx_okL 193 zx_c193 0 := zx_okB_ok (by decide +kernel)
set_option maxRecDepth 100000 in
theorem zk_m194 : zx_okL 194 zx_c194 0 := zx_okB_ok (by decide +kernel)
set_option maxRecDepth 100000 in
theorem zk_m195 : zx_okL 195 zx_c195 0 := zx_okB_ok (by decide +kernel)
set_option maxRecDepth 100000 in
theorem zk_m196 : zx_okL 196 zx_c196 0 := zx_okB_ok (by decide +kernel)
theorem zk_aa : zk_a := by
  have h : zx_okA zx_code 0 := ⟨zk_m0, zk_m1, zk_m2, zk_m3, zk_m4, zk_m5, zk_m6, zk_m7, zk_m8, zk_m9, zk_m10, zk_m11, zk_m12, zk_m13, zk_m14, zk_m15, zk_m16, zk_m17, zk_m18, zk_m19, zk_m20, zk_m21, zk_m22, zk_m23, zk_m24, zk_m25, zk_m26, zk_m27, zk_m28, zk_m29, zk_m30, zk_m31, zk_m32, zk_m33, zk_m34, zk_m35, zk_m36, zk_m37, zk_m38, zk_m39, zk_m40, zk_m41, zk_m42, zk_m43, zk_m44, zk_m45, zk_m46, zk_m47, zk_m48, zk_m49, zk_m50, zk_m51, zk_m52, zk_m53, zk_m54, zk_m55, zk_m56, zk_m57, zk_m58, zk_m59, zk_m60, zk_m61, zk_m62, zk_m63, zk_m64, zk_m65, zk_m66, zk_m67, zk_m68, zk_m69, zk_m70, zk_m71, zk_m72, zk_m73, zk_m74, zk_m75, zk_m76, zk_m77, zk_m78, zk_m79, zk_m80, zk_m81, zk_m82, zk_m83, zk_m84, zk_m85, zk_m86, zk_m87, zk_m88, zk_m89, zk_m90, zk_m91, zk_m92, zk_m93, zk_m94, zk_m95, zk_m96, zk_m97, zk_m98, zk_m99, zk_m100, zk_m101, zk_m102, zk_m103, zk_m104, zk_m105, zk_m106, zk_m107, zk_m108, zk_m109, zk_m110, zk_m111, zk_m112, zk_m113, zk_m114, zk_m115, zk_m116, zk_m117, zk_m118, zk_m119, zk_m120, zk_m121, zk_m122, zk_m123, zk_m124, zk_m125, zk_m126, zk_m127, zk_m128, zk_m129, zk_m130, zk_m131, zk_m132, zk_m133, zk_m134, zk_m135, zk_m136, zk_m137, zk_m138, zk_m139, zk_m140, zk_m141, zk_m142, zk_m143, zk_m144, zk_m145, zk_m146, zk_m147, zk_m148, zk_m149, zk_m150, zk_m151, zk_m152, zk_m153, zk_m154, zk_m155, zk_m156, zk_m157, zk_m158, zk_m159, zk_m160, zk_m161, zk_m162, zk_m163, zk_m164, zk_m165, zk_m166, zk_m167, zk_m168, zk_m169, zk_m170, zk_m171, zk_m172, zk_m173, zk_m174, zk_m175, zk_m176, zk_m177, zk_m178, zk_m179, zk_m180, zk_m181, zk_m182, zk_m183, zk_m184, zk_m185, zk_m186, zk_m187, zk_m188, zk_m189, zk_m190, zk_m191, zk_m192, zk_m193, zk_m194, zk_m195, zk_m196, trivial⟩
  intro k pc e he
  have z := zx_okL_at (zx_okA_at h k) pc e he
  rw [Nat.zero_add, Nat.zero_add] at z
  exact z
end
section
/-! at the law's entry: what was there before (by wip/p1/gen3.py) -/
def R_law : String := "DeckChairsLaw"
def lw_P (b : Addr) (xs : List Int32) (args : Array Value) (s : State) : Prop := args = #[.ref b] ∧ s.IntsAt b xs ∧ xs.length ≤ 6 ∧ (Jvm.Cond.and given_1 narrow_1).before args s = true
def lw_Q (_ : Array Value) (s : State) (o : Outcome) (t : State) : Prop := o = .returned (some (.int 1)) ∧ Framed s o t [] 600000 7302250
def lw_Z (below : List Frame) (a : Array Value) (s : State) : State → Prop := fun t => ∃ o, t.status = .running ∧ Ended t below o ∧ lw_Q a s o t
/-- the law's own end, with 1 on the stack, nothing written that was there before, its room as the claim has it -/
theorem lw_ret {p : Program} {l : Launch} {e : Env} {s : State} {m : MethodId} {below : List Frame} {meth : Method} {c : Code} {b : Nat} (hx : p.tables.exec = Jvm.exec) (hb : c.code = code) (hr : meth.sig.returnType = ret) (hlocks : meth.locks = false) {pc : Nat} {H : Heap} {ls : Array Slot} (hdg : decode code pc = .ok (.ireturn, 1)) : W p l e room_1 s m #[Value.ref b] below meth c H [] 600000 7302250 (lw_Z below #[Value.ref b] s) (F0 m pc ls [.int 1]) := by
  intro T hT X
  obtain ⟨fs, hret, hrun, hended, hW, hframe⟩ := X.leave (v := some (.int 1)) (hlocks := hlocks) (fun h => by rw [hr] at h; cases h)
  have hmeth' : T.vm.method? m = some meth := X.method'
  refine ⟨T.setFrames fs, ?_, .returned (some (.int 1)), hrun, hended, rfl, ⟨_, rfl⟩, hW, hframe⟩
  jvm_step X.here [X.here.top, hx, hb, hdg, hmeth', hr, ret, narrow_b1]
  (try refine ⟨rfl, ?_⟩); (try refine ⟨rfl, ?_⟩)
  first | (intro acts; rw [hret _ acts rfl rfl rfl]) | rw [hret _ _ rfl rfl rfl]
  exact Steps.refl _
/-- what holds at the law's entry: the machine, the code, the tables' words (any of lw_tbl by 'hts w (by decide +kernel)'), the script of L ints xs at the cell b, what the Statement gives of the start (any of its parts by flat_of_before) -/
def lw_At (p : Program) (s : State) (m : MethodId) (meth : Method) (c : Code) (b L : Nat) (xs : Nat → Int32) : Prop :=
  p.tables.exec = Jvm.exec ∧ c.code = code ∧ meth.sig.returnType = ret ∧ c.maxLocals = 4 ∧ s.vm.findClass R_law = some m.cls ∧ (∀ w ∈ lw_tbl, w.before #[Value.ref b] s = true) ∧ va_X b L xs s s.heap ∧ b < s.heap.size ∧ meth.locks = false ∧ (Jvm.Cond.and given_1 narrow_1).before #[Value.ref b] s = true
theorem zq_ins : ∀ (ci : Nat) (q : vw_C), zx_cl[ci]? = some q → ∃ n, Jvm.Cond.instantiable q.1 n ∈ zx_tb := by
  intro ci q h
  match ci, h with
  | 0, h => cases h; exact ⟨4, zx_w_ok (i := 519) (by decide +kernel)⟩
  | 1, h => cases h; exact ⟨7, zx_w_ok (i := 273) (by decide +kernel)⟩
  | 2, h => cases h; exact ⟨11, zx_w_ok (i := 540) (by decide +kernel)⟩
  | 3, h => cases h; exact ⟨2, zx_w_ok (i := 448) (by decide +kernel)⟩
  | 4, h => cases h; exact ⟨6, zx_w_ok (i := 146) (by decide +kernel)⟩
  | 5, h => cases h; exact ⟨3, zx_w_ok (i := 415) (by decide +kernel)⟩
  | 6, h => cases h; exact ⟨9, zx_w_ok (i := 372) (by decide +kernel)⟩
  | 7, h => cases h; exact ⟨11, zx_w_ok (i := 478) (by decide +kernel)⟩
  | 8, h => cases h; exact ⟨1, zx_w_ok (i := 421) (by decide +kernel)⟩
  | 9, h => cases h; exact ⟨8, zx_w_ok (i := 152) (by decide +kernel)⟩
  | 10, h => cases h; exact ⟨13, zx_w_ok (i := 267) (by decide +kernel)⟩
  | 11, h => cases h; exact ⟨16, zx_w_ok (i := 138) (by decide +kernel)⟩
  | 12, h => cases h; exact ⟨60, zx_w_ok (i := 1360) (by decide +kernel)⟩
  | n + 13, h => cases h
def zq_l0 : List Nat := [1, 1, 0, 0, 3, 1, 3, 0, 2, 1, 1, 1]
def zq_l4 : List Nat := [99, 104, 97, 105, 114, 32, 32, 32, 115, 105, 116, 116, 101, 114, 32, 32, 104, 97, 100, 32, 32, 32, 32, 32, 103, 117, 115, 116, 32, 32, 32, 32, 100, 114, 97, 119, 32, 32, 32, 32, 115, 104, 117, 116, 32, 32, 32, 32, 112, 117, 114, 115, 101, 32, 32, 32, 111, 114, 32, 32, 32, 32, 32, 32]
def zq_l5 : List Nat := [97, 110, 100, 32, 32, 32, 32, 32, 110, 111, 116, 32, 32, 32, 32, 32, 115, 116, 114, 105, 112, 101, 115, 32, 108, 105, 107, 101, 115, 32, 32, 32, 97, 108, 111, 110, 101, 32, 32, 32, 115, 97, 116, 32, 32, 32, 32, 32, 115, 97, 110, 100, 32, 32, 32, 32, 104, 111, 117, 114, 32, 32, 32, 32]
theorem zq_f0 : ∀ j, j < 12 → Jvm.Cond.eq (.elem (.static "DeckChairs$Hinge" "ADDED" "[I") (.int (Int32.ofNat j))) (.int (Int32.ofNat (zq_l0.getD j 0))) ∈ flatC (Jvm.Cond.and given_1 narrow_1) := by decide +kernel
theorem zq_f4 : ∀ j, j < 64 → Jvm.Cond.eq (.elem (.field (.string "DeckChairs$Tokens" 25) "java/lang/String" "value" "[B") (.int (Int32.ofNat j))) (.int ((zq_l4.map Int32.ofNat).getD j 0)) ∈ flatC (Jvm.Cond.and given_1 narrow_1) := by decide +kernel
theorem zq_f5 : ∀ j, j < 64 → Jvm.Cond.eq (.elem (.field (.string "DeckChairs$Tokens" 27) "java/lang/String" "value" "[B") (.int (Int32.ofNat j))) (.int ((zq_l5.map Int32.ofNat).getD j 0)) ∈ flatC (Jvm.Cond.and given_1 narrow_1) := by decide +kernel
def zq_tm (i : Nat) : Jvm.Term := .string "DeckChairs$Tokens" (if i = 0 then 25 else 27)
theorem zq_Tc {ty : FieldType} {t N : Nat} {f g : Nat → Value} {A : Nat → Prop} {U : State} {H : Heap} (h : va_T ty t N f A U H) (hfg : ∀ j, j < N → f j = g j) : va_T ty t N g A U H := by
  obtain ⟨cell, h1, h2, h3, h4, h5, h6, h7⟩ := h
  exact ⟨cell, h1, h2, h3, h4, h5, fun j hj => by rw [h6 j hj, hfg j hj], h7⟩
theorem zq_mp (ρ : Nat → Int32) : ∀ (l : List Nat) (j : Nat), j < l.length → zy_c ρ ((l.map (fun n => (.inl n : zx_V))).getD j zx_top) = .int (Int32.ofNat (l.getD j 0))
  | [], j, h => absurd h (Nat.not_lt_zero _)
  | a :: r, 0, h => rfl
  | a :: r, j + 1, h => by
    have z := zq_mp ρ r j (Nat.lt_of_succ_lt_succ h)
    simpa using z
theorem zq_gm : ∀ (l : List Nat) (j : Nat), j < l.length → (l.map Int32.ofNat).getD j 0 = Int32.ofNat (l.getD j 0)
  | [], j, h => absurd h (Nat.not_lt_zero _)
  | a :: r, 0, h => rfl
  | a :: r, j + 1, h => by
    have z := zq_gm r j (Nat.lt_of_succ_lt_succ h)
    simpa using z
set_option maxRecDepth 100000 in
theorem zq_xa0 : zx_xa0 = [(0, 0, zq_l0.map (fun n => .inl n)), (4, 1, zq_l4.map (fun n => .inl n)), (5, 1, zq_l5.map (fun n => .inl n))] := rfl
set_option maxRecDepth 100000 in
theorem zq_xa : zx_xa = [(0, 0, zq_l0.map (fun n => .inl n)), (1, 0, (List.range 6).map (fun i => .inr (.inr (.inr (.inl i))))), (4, 1, zq_l4.map (fun n => .inl n)), (5, 1, zq_l5.map (fun n => .inl n))] := rfl
theorem zq_m3 {α : Type} {q a b c : α} (h : q ∈ [a, b, c]) : q = a ∨ q = b ∨ q = c := by simpa using h
theorem zq_m4 {α : Type} {q a b c d : α} (h : q ∈ [a, b, c, d]) : q = a ∨ q = b ∨ q = c ∨ q = d := by simpa using h
set_option maxHeartbeats 4000000 in
set_option maxRecDepth 100000 in
/-- what was there before the law: with the script, if it has six ints -/
theorem zq_X {p : Program} {s : State} {m : MethodId} {meth : Method} {c : Code} {b L : Nat} {xs : Nat → Int32} (C0 : lw_At p s m meth c b L xs) : ∃ ex : Nat → Value, ex 1 = .ref b ∧ zy_X zx_xa0 xs ex (fun q => s.heap.size ≤ q) s s.heap ∧ (L = 6 → zy_X zx_xa xs ex (fun q => s.heap.size ≤ q) s s.heap) := by
  obtain ⟨hx, hb, hr, hml, hown, hts, hX, hbl, hlocks, hgv⟩ := C0
  have hs := flat_of_before _ hgv
  have hA : ∀ a : Nat, a < s.heap.size → ¬ (fun q : Nat => s.heap.size ≤ q) a := fun a h => Nat.not_le.mpr h
  obtain ⟨tA, ht1, ht2⟩ := va_Tof (args := #[Value.ref b]) (s := s) (tm := .static "DeckChairs$Hinge" "ADDED" "[I") (ty := .int) (N := 12) (f := fun j => .int (Int32.ofNat (zq_l0.getD j 0))) (A := fun q : Nat => s.heap.size ≤ q) (by decide) (hs _ (by decide +kernel)) (va_eqt (hs _ (by decide +kernel))) (fun j hj => va_eqt (hs _ (zq_f0 j hj))) hA
  have z0 := va_Zref (args := #[Value.ref b]) (C := "DeckChairs$Hinge") (n := "ADDED") (d := "[I") (A := fun q : Nat => s.heap.size ≤ q) (hts _ (List.mem_of_getElem? (i := 464) (by decide +kernel))) (hts _ (List.mem_of_getElem? (i := 129) (by decide +kernel))) ht1 hA
  have z1 := va_Zof (args := #[Value.ref b]) (C := "java/lang/String") (n := "COMPACT_STRINGS") (d := "Z") (v := .int 1) (A := fun q : Nat => s.heap.size ≤ q) (hts _ (List.mem_of_getElem? (i := 171) (by decide +kernel))) (hts _ (List.mem_of_getElem? (i := 119) (by decide +kernel))) (va_eqt (hs _ (by decide +kernel))) hA
  have z2 := va_Zqof (args := #[Value.ref b]) (C := "jdk/internal/util/Preconditions") (n := "SIOOBE_FORMATTER") (d := "Ljava/util/function/BiFunction;") (A := fun q : Nat => s.heap.size ≤ q) (hts _ (List.mem_of_getElem? (i := 187) (by decide +kernel))) (hts _ (List.mem_of_getElem? (i := 121) (by decide +kernel))) (hs _ (by decide +kernel)) hA
  obtain ⟨vF, hvF, z2⟩ : ∃ v : Value, (v = .null ∨ ∃ a, v = .ref a) ∧ va_Z "jdk/internal/util/Preconditions" "SIOOBE_FORMATTER" "Ljava/util/function/BiFunction;" v (fun q : Nat => s.heap.size ≤ q) s s.heap := by
    rcases z2 with z | ⟨t, z⟩
    · exact ⟨_, Or.inl rfl, z⟩
    · exact ⟨_, Or.inr ⟨t, rfl⟩, z⟩
  have c2 : ∀ i, i < 2 → i = 0 ∨ i = 1 := fun i hi => by omega
  obtain ⟨adK, adV, hSt, hKe⟩ := vk_Sof (args := #[Value.ref b]) (s := s) (N := 2) (tm := zq_tm) (len := [64, 64]) (byt := [zq_l4.map Int32.ofNat, zq_l5.map Int32.ofNat]) (A := fun q : Nat => s.heap.size ≤ q)
    (fun i hi => by rcases c2 i hi with rfl | rfl <;> decide)
    (fun i hi => by rcases c2 i hi with rfl | rfl <;> exact hs _ (by decide +kernel))
    (fun i hi => by rcases c2 i hi with rfl | rfl <;> exact hs _ (by decide +kernel))
    (fun i hi => by rcases c2 i hi with rfl | rfl <;> exact hs _ (by decide +kernel))
    (fun i hi => by rcases c2 i hi with rfl | rfl <;> exact hs _ (by decide +kernel))
    (fun i hi j hj => by
      rcases c2 i hi with rfl | rfl
      · exact hs _ (zq_f4 j hj)
      · exact hs _ (zq_f5 j hj))
    (fun i j hi hj hij => by
      rcases c2 i hi with rfl | rfl <;> rcases c2 j hj with rfl | rfl
      · exact absurd rfl hij
      · exact Or.inl (hs _ (by decide +kernel))
      · exact Or.inr (hs _ (by decide +kernel))
      · exact absurd rfl hij) hA
  obtain ⟨k1, k2, k3, k4⟩ := hSt.1 0 (by omega)
  obtain ⟨j1, j2, j3, j4⟩ := hSt.1 1 (by omega)
  refine ⟨fun j => if j = 0 then .ref tA else if j = 1 then .ref b else if j = 2 then .ref (adK 0) else if j = 3 then .ref (adK 1) else if j = 4 then .ref (adV 0) else if j = 5 then .ref (adV 1) else if j = 7 then vF else .null, rfl, ?_⟩
  have a0 : va_T (zx_ft 0) tA (zq_l0.map (fun n => (.inl n : zx_V))).length (fun i => zy_c xs ((zq_l0.map (fun n => (.inl n : zx_V))).getD i zx_top)) (fun q : Nat => s.heap.size ≤ q) s s.heap := zq_Tc ht2 (fun j hj => (zq_mp xs zq_l0 j hj).symm)
  have a4 : va_T (zx_ft 1) (adV 0) (zq_l4.map (fun n => (.inl n : zx_V))).length (fun i => zy_c xs ((zq_l4.map (fun n => (.inl n : zx_V))).getD i zx_top)) (fun q : Nat => s.heap.size ≤ q) s s.heap := zq_Tc k4 (fun j hj => by rw [zq_mp xs zq_l4 j hj]; show Value.int ((zq_l4.map Int32.ofNat).getD j 0) = _; rw [zq_gm zq_l4 j hj])
  have a5 : va_T (zx_ft 1) (adV 1) (zq_l5.map (fun n => (.inl n : zx_V))).length (fun i => zy_c xs ((zq_l5.map (fun n => (.inl n : zx_V))).getD i zx_top)) (fun q : Nat => s.heap.size ≤ q) s s.heap := zq_Tc j4 (fun j hj => by rw [zq_mp xs zq_l5 j hj]; show Value.int ((zq_l5.map Int32.ofNat).getD j 0) = _; rw [zq_gm zq_l5 j hj])
  have isC : ∀ (l : List Nat), ∀ x ∈ l.map (fun n => (.inl n : zx_V)), zx_isC x = true := by
    intro l x hx
    obtain ⟨n, -, rfl⟩ := List.mem_map.mp hx
    rfl
  have rest : ∀ xa : List (Nat × Nat × List zx_V), (∀ q ∈ xa, ∃ a, (fun j : Nat => if j = 0 then Value.ref tA else if j = 1 then .ref b else if j = 2 then .ref (adK 0) else if j = 3 then .ref (adK 1) else if j = 4 then .ref (adV 0) else if j = 5 then .ref (adV 1) else if j = 7 then vF else .null) q.1 = .ref a ∧ (∀ x ∈ q.2.2, zx_isC x = true) ∧ va_T (zx_ft q.2.1) a q.2.2.length (fun i => zy_c xs (q.2.2.getD i zx_top)) (fun q : Nat => s.heap.size ≤ q) s s.heap) → zy_X xa xs (fun j : Nat => if j = 0 then Value.ref tA else if j = 1 then .ref b else if j = 2 then .ref (adK 0) else if j = 3 then .ref (adK 1) else if j = 4 then .ref (adV 0) else if j = 5 then .ref (adV 1) else if j = 7 then vF else .null) (fun q : Nat => s.heap.size ≤ q) s s.heap := by
    intro xa hxa
    refine ⟨fun j => ?_, hxa, ⟨z0, z1, z2⟩, fun j hj => ?_, ⟨adK 0, "chair   sitter  had     gust    draw    shut    purse   or      ", rfl, vk_R.of (A := #[Value.ref b]) (hts _ (List.mem_of_getElem? (i := 157) (by decide +kernel))) (hKe 0 (by omega))⟩, ⟨adK 1, "and     not     stripes likes   alone   sat     sand    hour    ", rfl, vk_R.of (A := #[Value.ref b]) (hts _ (List.mem_of_getElem? (i := 158) (by decide +kernel))) (hKe 1 (by omega))⟩, va_Nw.of (A := #[Value.ref b]) rfl (hts _ (List.mem_of_getElem? (i := 465) (by decide +kernel)))⟩
    · dsimp only
      split
      · exact Or.inr ⟨_, rfl⟩
      split
      · exact Or.inr ⟨_, rfl⟩
      split
      · exact Or.inr ⟨_, rfl⟩
      split
      · exact Or.inr ⟨_, rfl⟩
      split
      · exact Or.inr ⟨_, rfl⟩
      split
      · exact Or.inr ⟨_, rfl⟩
      split
      · exact hvF
      · exact Or.inl rfl
    · rcases hj with rfl | rfl
      · exact ⟨adK 0, rfl, k1, k3, k2⟩
      · exact ⟨adK 1, rfl, j1, j3, j2⟩
  refine ⟨rest _ (fun q hq => ?_), fun hL => rest _ (fun q hq => ?_)⟩
  · rw [zq_xa0] at hq
    rcases zq_m3 hq with rfl | rfl | rfl
    · exact ⟨tA, rfl, isC _, a0⟩
    · exact ⟨adV 0, rfl, isC _, a4⟩
    · exact ⟨adV 1, rfl, isC _, a5⟩
  · rw [zq_xa] at hq
    rcases zq_m4 hq with rfl | rfl | rfl | rfl
    · exact ⟨tA, rfl, isC _, a0⟩
    · refine ⟨b, rfl, fun x hx => ?_, ?_⟩
      · obtain ⟨n, -, rfl⟩ := List.mem_map.mp hx
        rfl
      · obtain ⟨scr, x1, x2, x3, x4, x5⟩ := hX
        subst hL
        refine ⟨scr, x1, x2, x3, by rw [x4]; exact Nat.le_refl _, by rw [x4]; rfl, fun j hj => ?_, hA b hbl⟩
        rw [x5 j hj]
        have hj : j < 6 := hj
        match j, hj with
        | 0, _ => rfl
        | 1, _ => rfl
        | 2, _ => rfl
        | 3, _ => rfl
        | 4, _ => rfl
        | 5, _ => rfl
    · exact ⟨adV 0, rfl, isC _, a4⟩
    · exact ⟨adV 1, rfl, isC _, a5⟩
end
section
/-! runs that the kernel does: comparing what came out -/
def zx_ve (a b : zx_V) : Bool := match a with
  | .inl x => (match b with | .inl y => Nat.beq x y | _ => false)
  | .inr (.inl none) => (match b with | .inr (.inl none) => true | _ => false)
  | .inr (.inl (some x)) => (match b with | .inr (.inl (some y)) => Nat.beq x y | _ => false)
  | .inr (.inr (.inl x)) => (match b with | .inr (.inr (.inl y)) => Nat.beq x y | _ => false)
  | .inr (.inr (.inr (.inl x))) => (match b with | .inr (.inr (.inr (.inl y))) => Nat.beq x y | _ => false)
  | .inr (.inr (.inr (.inr (.inl x)))) => (match b with | .inr (.inr (.inr (.inr (.inl y)))) => Nat.beq x y | _ => false)
  | .inr (.inr (.inr (.inr (.inr _)))) => (match b with | .inr (.inr (.inr (.inr (.inr _)))) => true | _ => false)
theorem zx_ve_ok {a b : zx_V} (h : zx_ve a b = true) : a = b := by
  match a, b, h with
  | .inl x, .inl y, h => rw [Nat.eq_of_beq_eq_true h]
  | .inr (.inl none), .inr (.inl none), h => rfl
  | .inr (.inl (some x)), .inr (.inl (some y)), h => rw [Nat.eq_of_beq_eq_true h]
  | .inr (.inr (.inl x)), .inr (.inr (.inl y)), h => rw [Nat.eq_of_beq_eq_true h]
  | .inr (.inr (.inr (.inl x))), .inr (.inr (.inr (.inl y))), h => rw [Nat.eq_of_beq_eq_true h]
  | .inr (.inr (.inr (.inr (.inl x)))), .inr (.inr (.inr (.inr (.inl y)))), h => rw [Nat.eq_of_beq_eq_true h]
  | .inr (.inr (.inr (.inr (.inr ())))), .inr (.inr (.inr (.inr (.inr ())))), h => rfl
noncomputable def zx_ls {α : Type} (f : α → α → Bool) (l : List α) : List α → Bool := List.rec (motive := fun _ => List α → Bool) (fun m => List.rec (motive := fun _ => Bool) true (fun _ _ _ => false) m) (fun x _ ih m => List.rec (motive := fun _ => Bool) false (fun y t _ => cond (f x y) (ih t) false) m) l
theorem zx_ls_ok {α : Type} {f : α → α → Bool} (hf : ∀ a b, f a b = true → a = b) : ∀ {l m : List α}, zx_ls f l m = true → l = m
  | [], [], _ => rfl
  | [], _ :: _, h => by cases h
  | _ :: _, [], h => by cases h
  | x :: l, y :: m, h => by
    have h : cond (f x y) (zx_ls f l m) false = true := h
    cases hb : f x y with
    | false => rw [hb] at h; cases h
    | true => rw [hb] at h; rw [hf x y hb, zx_ls_ok hf h]
noncomputable def zx_ce (a b : zx_E) : Bool := match a with
  | .inl p => (match b with | .inl q => Nat.beq p.1 q.1 && zx_ls zx_ve p.2 q.2 | _ => false)
  | .inr p => (match b with | .inr q => Nat.beq p.1 q.1 && zx_ls zx_ve p.2 q.2 | _ => false)
theorem zx_ce_ok (a b : zx_E) (h : zx_ce a b = true) : a = b := by
  match a, b, h with
  | .inl (x, l), .inl (y, m), h =>
    obtain ⟨h1, h2⟩ := Bool.and_eq_true_iff.mp h
    have e1 : x = y := Nat.eq_of_beq_eq_true h1
    have e2 : l = m := zx_ls_ok (fun _ _ z => zx_ve_ok z) h2
    rw [e1, e2]
  | .inr (x, l), .inr (y, m), h =>
    obtain ⟨h1, h2⟩ := Bool.and_eq_true_iff.mp h
    have e1 : x = y := Nat.eq_of_beq_eq_true h1
    have e2 : l = m := zx_ls_ok (fun _ _ z => zx_ve_ok z) h2
    rw [e1, e2]
def zx_pe (a b : Nat × zx_V) : Bool := Nat.beq a.1 b.1 && zx_ve a.2 b.2
theorem zx_pe_ok (a b : Nat × zx_V) (h : zx_pe a b = true) : a = b := by
  obtain ⟨h1, h2⟩ := Bool.and_eq_true_iff.mp h
  exact Prod.ext (Nat.eq_of_beq_eq_true h1) (zx_ve_ok h2)
def zx_ge (a b : Int × Int) : Bool := decide (a = b)
/-- it stopped at the breakpoint, with just this -/
noncomputable def zx_pz (r : zx_R) (g : zx_G) (w : zx_Wd) (cs sl : Nat) (lo : zx_L) (st : List zx_V) : Bool := match r with
  | some [(g2, w2, .inr (cs2, sl2, lo2, st2))] => zx_ls zx_ge g2 g && (Nat.beq cs2 cs && (Nat.beq sl2 sl && (zx_ls zx_pe lo2 lo && (zx_ls zx_ve st2 st && zx_ls zx_ce w2 w))))
  | _ => false
theorem zx_pz_ok {r : zx_R} {g : zx_G} {w : zx_Wd} {cs sl : Nat} {lo : zx_L} {st : List zx_V} (h : zx_pz r g w cs sl lo st = true) : r = some [(g, w, .inr (cs, sl, lo, st))] := by
  match r, h with
  | some [(g2, w2, .inr (cs2, sl2, lo2, st2))], h =>
    obtain ⟨h1, h⟩ := Bool.and_eq_true_iff.mp h
    obtain ⟨h2, h⟩ := Bool.and_eq_true_iff.mp h
    obtain ⟨h3, h⟩ := Bool.and_eq_true_iff.mp h
    obtain ⟨h4, h⟩ := Bool.and_eq_true_iff.mp h
    obtain ⟨h5, h6⟩ := Bool.and_eq_true_iff.mp h
    rw [zx_ls_ok (fun _ _ z => of_decide_eq_true z) h1, Nat.eq_of_beq_eq_true h2, Nat.eq_of_beq_eq_true h3, zx_ls_ok zx_pe_ok h4, zx_ls_ok (fun _ _ z => zx_ve_ok z) h5, zx_ls_ok zx_ce_ok h6]
/-- all roads end with the answer 1 -/
def zx_fin (r : zx_R) : Bool := match r with
  | some l => l.all fun o => (match o.2.2 with
    | .inl (some (.inl n)) => Nat.beq n 1
    | _ => false)
  | none => false
theorem zx_fin_ok {r : zx_R} (h : zx_fin r = true) : ∃ l, r = some l ∧ ∀ o ∈ l, o.2.2 = .inl (some (.inl 1)) := by
  match r, h with
  | some l, h =>
    refine ⟨l, rfl, fun o ho => ?_⟩
    have z := List.all_eq_true.mp h o ho
    match hq : o.2.2, z with
    | .inl (some (.inl n)), z => rw [Nat.eq_of_beq_eq_true (show Nat.beq n 1 = true from z)]
/-- the world behind the two constructors -/
noncomputable def zx_w0_0 : zx_Wd := [.inr (11, [.inr (.inl (some 1)), .inl 0, .inr (.inl (some 2)), .inr (.inl (some 8)), .inr (.inl (some 20)), .inr (.inl (some 32)), .inr (.inl (some 39)), .inr (.inl (some 46)), .inr (.inl (some 49)), .inr (.inl (some 51)), .inr (.inl (some 52)), .inr (.inl (some 55)), .inr (.inl (some 61)), .inr (.inl (some 64)), .inr (.inl (some 72)), .inl 0]), .inl (1, List.replicate 1600 (.inl 0)), .inr (4, [.inl 0, .inl 4294967295, .inr (.inl (some 3)), .inl 0, .inl 0, .inr (.inl none)]), .inr (9, [.inr (.inl (some 4)), .inr (.inl (some 5)), .inr (.inl (some 6)), .inr (.inl (some 7)), .inl 0, .inr (.inl none), .inl 0, .inl 0]), .inl (3, [.inr (.inr (.inl 3409202)), .inr (.inr (.inl 647647410)), .inr (.inr (.inl 8228)), .inr (.inr (.inl 251508)), .inr (.inr (.inl 149559)), .inr (.inr (.inl 631476)), .inr (.inr (.inl 17484389)), .inr (.inr (.inl 498)), .inr (.inr (.inl 1476)), .inr (.inr (.inl 14836)), .inr (.inr (.inl 21091369139)), .inr (.inr (.inl 12889267)), .inr (.inr (.inl 1457605)), .inr (.inr (.inl 19508)), .inr (.inr (.inl 624068)), .inr (.inr (.inl 278194))]), .inl (0, List.replicate 1601 (.inl 0)), .inl (0, List.replicate 1601 (.inl 0)), .inl (3, List.replicate 1601 (.inr (.inr (.inl 0)))), .inr (10, [.inl 0, .inl 0, .inl 0, .inl 0, .inl 0, .inl 0, .inr (.inl (some 9)), .inr (.inl (some 10)), .inr (.inl (some 11)), .inr (.inl (some 12)), .inr (.inl (some 13)), .inr (.inl (some 14)), .inr (.inl (some 15))]), .inl (3, List.replicate 5 (.inr (.inr (.inl 0))))]
noncomputable def zx_w0_1 : zx_Wd := [.inl (3, List.replicate 5 (.inr (.inr (.inl 0)))), .inl (0, List.replicate 5 (.inl 0)), .inl (0, List.replicate 5 (.inl 0)), .inl (0, List.replicate 5 (.inl 0)), .inl (0, List.replicate 5 (.inl 0)), .inr (1, [.inl 0, .inl 0, .inl 0, .inr (.inl (some 16)), .inr (.inl (some 17)), .inr (.inl (some 18)), .inr (.inl (some 19))]), .inl (0, List.replicate 300 (.inl 0)), .inl (0, List.replicate 300 (.inl 0)), .inl (0, List.replicate 64 (.inl 0)), .inl (0, List.replicate 6 (.inl 0))]
noncomputable def zx_w0_2 : zx_Wd := [.inr (10, [.inl 0, .inl 0, .inl 0, .inl 0, .inl 0, .inl 0, .inr (.inl (some 21)), .inr (.inl (some 22)), .inr (.inl (some 23)), .inr (.inl (some 24)), .inr (.inl (some 25)), .inr (.inl (some 26)), .inr (.inl (some 27))]), .inl (3, List.replicate 5 (.inr (.inr (.inl 0)))), .inl (3, List.replicate 5 (.inr (.inr (.inl 0)))), .inl (0, List.replicate 5 (.inl 0)), .inl (0, List.replicate 5 (.inl 0)), .inl (0, List.replicate 5 (.inl 0)), .inl (0, List.replicate 5 (.inl 0)), .inr (1, [.inl 0, .inl 0, .inl 0, .inr (.inl (some 28)), .inr (.inl (some 29)), .inr (.inl (some 30)), .inr (.inl (some 31))]), .inl (0, List.replicate 300 (.inl 0)), .inl (0, List.replicate 300 (.inl 0))]
noncomputable def zx_w0_3 : zx_Wd := [.inl (0, List.replicate 64 (.inl 0)), .inl (0, List.replicate 6 (.inl 0)), .inr (6, [.inr (.inl (some 8)), .inr (.inl (some 33)), .inr (.inl (some 34)), .inr (.inl (some 35)), .inr (.inl (some 36)), .inr (.inl (some 37)), .inr (.inl (some 38)), .inl 0, .inl 0]), .inl (0, List.replicate 5 (.inl 0)), .inl (0, List.replicate 5 (.inl 0)), .inl (0, List.replicate 5 (.inl 4294967295)), .inl (0, List.replicate 5 (.inl 0)), .inl (0, List.replicate 5 (.inl 0)), .inl (0, List.replicate 5 (.inl 0)), .inr (6, [.inr (.inl (some 8)), .inr (.inl (some 40)), .inr (.inl (some 41)), .inr (.inl (some 42)), .inr (.inl (some 43)), .inr (.inl (some 44)), .inr (.inl (some 45)), .inl 0, .inl 0])]
noncomputable def zx_w0_4 : zx_Wd := [.inl (0, List.replicate 5 (.inl 0)), .inl (0, List.replicate 5 (.inl 0)), .inl (0, List.replicate 5 (.inl 0)), .inl (0, List.replicate 5 (.inl 0)), .inl (0, List.replicate 5 (.inl 0)), .inl (0, List.replicate 5 (.inl 0)), .inr (5, [.inl 0, .inl 0, .inr (.inl (some 47))]), .inr (8, [.inr (.inl (some 48))]), .inl (0, [.inl 0, .inl 0, .inl 0, .inl 0, .inl 0, .inl 0, .inl 0, .inl 0, .inl 0, .inl 0, .inl 4294967295, .inl 4294967295, .inl 4294967295, .inl 4294967295, .inl 4294967295, .inl 0, .inl 0, .inl 0, .inl 0, .inl 0, .inl 0, .inl 0, .inl 0, .inl 0, .inl 0, .inl 0, .inl 0, .inl 0, .inl 0, .inl 0, .inl 0, .inl 0, .inl 0, .inl 0, .inl 0, .inl 0, .inl 0, .inl 0, .inl 0, .inl 0, .inl 0, .inl 0, .inl 0, .inl 0, .inl 0, .inl 0, .inl 0, .inl 0, .inl 0, .inl 0, .inl 0, .inl 0, .inl 0, .inl 0, .inl 0, .inl 0, .inl 0, .inl 0, .inl 0, .inl 0, .inl 0, .inl 0, .inl 0, .inl 0, .inl 0, .inl 0, .inl 0, .inl 0, .inl 0, .inl 0, .inl 0, .inl 0, .inl 0, .inl 0, .inl 0, .inl 0, .inl 0, .inl 0, .inl 0, .inl 0, .inl 0, .inl 0, .inl 0, .inl 0, .inl 0, .inl 0, .inl 0, .inl 0, .inl 0, .inl 0, .inl 0, .inl 0, .inl 0, .inl 0, .inl 0, .inl 0, .inl 0, .inl 0, .inl 0, .inl 0, .inl 0, .inl 0, .inl 0, .inl 0, .inl 0, .inl 0, .inl 0, .inl 0, .inl 0, .inl 0, .inl 0, .inl 0, .inl 0, .inl 0, .inl 0, .inl 0, .inl 0, .inl 0, .inl 0, .inl 0, .inl 0, .inl 0, .inl 0, .inl 0, .inl 0, .inl 0, .inl 0, .inl 0, .inl 0, .inl 0, .inl 0, .inl 0, .inl 0, .inl 0, .inl 0, .inl 0, .inl 0, .inl 0, .inl 0, .inl 0, .inl 0, .inl 0, .inl 0, .inl 0, .inl 0, .inl 0, .inl 0, .inl 0, .inl 0, .inl 0, .inl 0, .inl 0, .inl 0, .inl 0, .inl 0, .inl 0, .inl 0, .inl 0, .inl 0, .inl 0, .inl 0, .inl 0, .inl 0, .inl 0, .inl 0, .inl 0, .inl 0, .inl 0, .inl 0, .inl 0, .inl 0, .inl 0, .inl 0, .inl 0, .inl 0, .inl 0, .inl 0, .inl 0, .inl 0, .inl 0, .inl 0, .inl 0, .inl 0, .inl 0, .inl 0, .inl 0, .inl 0, .inl 0, .inl 0, .inl 0, .inl 0, .inl 0, .inl 0, .inl 0, .inl 0, .inl 0, .inl 0, .inl 0, .inl 0, .inl 0, .inl 0, .inl 0, .inl 0, .inl 0, .inl 0, .inl 0, .inl 0, .inl 0, .inl 0, .inl 0, .inl 0, .inl 0, .inl 0, .inl 0, .inl 0, .inl 0, .inl 0, .inl 0, .inl 0, .inl 0, .inl 0, .inl 0, .inl 0, .inl 0, .inl 0, .inl 0, .inl 0, .inl 0, .inl 0, .inl 0, .inl 0, .inl 0, .inl 0, .inl 0, .inl 0, .inl 0, .inl 0, .inl 0, .inl 0, .inl 0, .inl 0, .inl 0, .inl 0, .inl 0, .inl 0, .inl 0, .inl 0, .inl 0, .inl 0, .inl 0, .inl 0, .inl 0, .inl 0, .inl 0, .inl 0, .inl 0, .inl 0, .inl 0, .inl 0, .inl 0, .inl 0, .inl 0, .inl 0, .inl 0, .inl 0, .inl 0, .inl 0, .inl 0, .inl 0, .inl 0, .inl 0, .inl 0, .inl 0, .inl 0, .inl 0, .inl 0, .inl 0, .inl 0, .inl 0, .inl 0, .inl 0, .inl 0, .inl 0, .inl 0, .inl 0, .inl 0, .inl 0, .inl 0, .inl 0, .inl 0, .inl 0, .inl 0, .inl 0, .inl 0, .inl 0, .inl 0, .inl 0, .inl 0, .inl 0, .inl 0, .inl 0, .inl 0, .inl 0, .inl 0, .inl 0, .inl 0, .inl 0, .inl 0, .inl 0, .inl 0, .inl 0, .inl 0, .inl 0, .inl 0, .inl 0, .inl 0, .inl 0, .inl 0, .inl 0, .inl 0, .inl 0, .inl 0, .inl 0, .inl 0, .inl 0, .inl 0, .inl 0, .inl 0, .inl 0, .inl 0, .inl 0, .inl 0, .inl 0, .inl 0, .inl 0, .inl 0, .inl 0, .inl 0, .inl 0, .inl 0, .inl 0, .inl 0, .inl 0, .inl 0, .inl 0, .inl 0, .inl 0, .inl 0, .inl 0, .inl 0, .inl 0, .inl 0, .inl 0, .inl 0, .inl 0, .inl 0, .inl 0, .inl 0, .inl 0, .inl 0, .inl 0, .inl 0, .inl 0, .inl 0, .inl 0, .inl 0, .inl 0, .inl 0, .inl 0, .inl 0, .inl 0, .inl 0, .inl 0, .inl 0, .inl 0, .inl 0, .inl 0, .inl 0, .inl 0, .inl 0, .inl 0, .inl 0, .inl 0, .inl 0, .inl 0, .inl 0, .inl 0, .inl 0, .inl 0, .inl 0, .inl 0, .inl 0, .inl 0, .inl 0, .inl 0, .inl 0, .inl 0, .inl 0, .inl 0, .inl 0, .inl 0, .inl 0, .inl 0, .inl 0, .inl 0, .inl 0, .inl 0, .inl 0, .inl 0, .inl 0, .inl 0, .inl 0, .inl 0, .inl 0, .inl 0, .inl 0, .inl 0, .inl 0, .inl 0, .inl 0, .inl 0, .inl 0, .inl 0, .inl 0, .inl 0, .inl 0, .inl 0, .inl 0, .inl 0, .inl 0, .inl 0, .inl 0, .inl 0, .inl 0, .inl 0, .inl 0, .inl 0, .inl 0, .inl 0, .inl 0, .inl 0, .inl 0, .inl 0, .inl 0, .inl 0, .inl 0, .inl 0, .inl 0, .inl 0, .inl 0, .inl 0, .inl 0, .inl 0, .inl 0, .inl 0, .inl 0, .inl 0, .inl 0, .inl 0, .inl 0, .inl 0, .inl 0, .inl 0, .inl 0, .inl 0, .inl 0, .inl 0, .inl 0, .inl 0, .inl 0, .inl 0, .inl 0, .inl 0, .inl 0, .inl 0, .inl 0, .inl 0, .inl 0, .inl 0, .inl 0, .inl 0, .inl 0, .inl 0, .inl 0, .inl 0, .inl 0, .inl 0, .inl 0, .inl 0, .inl 0, .inl 0, .inl 0, .inl 0, .inl 0, .inl 0, .inl 0, .inl 0, .inl 0, .inl 0, .inl 0, .inl 0, .inl 0, .inl 0, .inl 0, .inl 0, .inl 0, .inl 0, .inl 0, .inl 0, .inl 0, .inl 0, .inl 0, .inl 0, .inl 0, .inl 0, .inl 0, .inl 0, .inl 0, .inl 0, .inl 0, .inl 0, .inl 0, .inl 0, .inl 0, .inl 0, .inl 0, .inl 0, .inl 0, .inl 0, .inl 0, .inl 0, .inl 0, .inl 0, .inl 0, .inl 0, .inl 0, .inl 0, .inl 0, .inl 0, .inl 0, .inl 0, .inl 0, .inl 0, .inl 0, .inl 0, .inl 0, .inl 0, .inl 0, .inl 0, .inl 0, .inl 0, .inl 0, .inl 0, .inl 0, .inl 0, .inl 0, .inl 0, .inl 0, .inl 0, .inl 0, .inl 0, .inl 0, .inl 0, .inl 0, .inl 0, .inl 0, .inl 0, .inl 0, .inl 0, .inl 0, .inl 0, .inl 0, .inl 0, .inl 0, .inl 0, .inl 0, .inl 0, .inl 0, .inl 0, .inl 0, .inl 0, .inl 0, .inl 0, .inl 0, .inl 0, .inl 0, .inl 0, .inl 0, .inl 0, .inl 0, .inl 0, .inl 0, .inl 0, .inl 0, .inl 0, .inl 0, .inl 0, .inl 0, .inl 0, .inl 0, .inl 0, .inl 0, .inl 0, .inl 0, .inl 0, .inl 0, .inl 0, .inl 0, .inl 0, .inl 0, .inl 0, .inl 0, .inl 0, .inl 0, .inl 0, .inl 0, .inl 0, .inl 0, .inl 0, .inl 0, .inl 0, .inl 0, .inl 0, .inl 0, .inl 0, .inl 0, .inl 0, .inl 0, .inl 0, .inl 0, .inl 0, .inl 0, .inl 0, .inl 0, .inl 0, .inl 0, .inl 0, .inl 0, .inl 0, .inl 0, .inl 0, .inl 0, .inl 0, .inl 0, .inl 0, .inl 0, .inl 0, .inl 0, .inl 0, .inl 0, .inl 0, .inl 0, .inl 0, .inl 0, .inl 0, .inl 0, .inl 0, .inl 0, .inl 0, .inl 0, .inl 0, .inl 0, .inl 0, .inl 0, .inl 0, .inl 0, .inl 0, .inl 0, .inl 0, .inl 0, .inl 0, .inl 0, .inl 0, .inl 0, .inl 0, .inl 0, .inl 0, .inl 0, .inl 0, .inl 0, .inl 0, .inl 0, .inl 0, .inl 0, .inl 0, .inl 0, .inl 0, .inl 0, .inl 0, .inl 0, .inl 0, .inl 0, .inl 0, .inl 0, .inl 0, .inl 0, .inl 0, .inl 0, .inl 0, .inl 0, .inl 0, .inl 0, .inl 0, .inl 0, .inl 0, .inl 0, .inl 0, .inl 0, .inl 0, .inl 0, .inl 0, .inl 0, .inl 0, .inl 0, .inl 0, .inl 0, .inl 0, .inl 0, .inl 0, .inl 0, .inl 0, .inl 0, .inl 0, .inl 0, .inl 0, .inl 0, .inl 0, .inl 0, .inl 0, .inl 0, .inl 0, .inl 0, .inl 0, .inl 0, .inl 0, .inl 0, .inl 0, .inl 0, .inl 0, .inl 0, .inl 0, .inl 0, .inl 0, .inl 0, .inl 0, .inl 0, .inl 0, .inl 0, .inl 0, .inl 0, .inl 0, .inl 0, .inl 0, .inl 0, .inl 0, .inl 0, .inl 0, .inl 0, .inl 0, .inl 0, .inl 0, .inl 0, .inl 0, .inl 0, .inl 0, .inl 0, .inl 0, .inl 0, .inl 0, .inl 0, .inl 0, .inl 0, .inl 0, .inl 0, .inl 0, .inl 0, .inl 0, .inl 0, .inl 0, .inl 0, .inl 0, .inl 0, .inl 0, .inl 0, .inl 0, .inl 0, .inl 0, .inl 0, .inl 0, .inl 0, .inl 0, .inl 0, .inl 0, .inl 0, .inl 0, .inl 0, .inl 0, .inl 0, .inl 0, .inl 0, .inl 0, .inl 0, .inl 0, .inl 0, .inl 0, .inl 0, .inl 0, .inl 0, .inl 0, .inl 0, .inl 0, .inl 0, .inl 0, .inl 0, .inl 0, .inl 0, .inl 0, .inl 0, .inl 0, .inl 0, .inl 0, .inl 0, .inl 0, .inl 0, .inl 0, .inl 0, .inl 0, .inl 0, .inl 0, .inl 0, .inl 0, .inl 0, .inl 0, .inl 0, .inl 0, .inl 0, .inl 0, .inl 0, .inl 0, .inl 0, .inl 0, .inl 0, .inl 0, .inl 0, .inl 0, .inl 0, .inl 0, .inl 0, .inl 0, .inl 0, .inl 0, .inl 0, .inl 0, .inl 0, .inl 0, .inl 0, .inl 0, .inl 0, .inl 0, .inl 0, .inl 0, .inl 0, .inl 0, .inl 0, .inl 0, .inl 0, .inl 0, .inl 0, .inl 0, .inl 0, .inl 0, .inl 0, .inl 0, .inl 0, .inl 0, .inl 0, .inl 0, .inl 0, .inl 0, .inl 0, .inl 0, .inl 0, .inl 0, .inl 0, .inl 0, .inl 0, .inl 0, .inl 0, .inl 0, .inl 0, .inl 0, .inl 0, .inl 0, .inl 0, .inl 0, .inl 0, .inl 0, .inl 0, .inl 0, .inl 0, .inl 0, .inl 0, .inl 0, .inl 0, .inl 0, .inl 0, .inl 0, .inl 0, .inl 0, .inl 0, .inl 0, .inl 0, .inl 0, .inl 0, .inl 0, .inl 0, .inl 0, .inl 0, .inl 0, .inl 0, .inl 0, .inl 0, .inl 0, .inl 0, .inl 0, .inl 0, .inl 0, .inl 0, .inl 0, .inl 0, .inl 0, .inl 0, .inl 0, .inl 0, .inl 0, .inl 0, .inl 0, .inl 0, .inl 0, .inl 0, .inl 0, .inl 0, .inl 0, .inl 0, .inl 0, .inl 0, .inl 0, .inl 0, .inl 0, .inl 0, .inl 0, .inl 0, .inl 0, .inl 0, .inl 0, .inl 0, .inl 0, .inl 0, .inl 0, .inl 0, .inl 0, .inl 0, .inl 0, .inl 0, .inl 0, .inl 0, .inl 0, .inl 0, .inl 0, .inl 0, .inl 0, .inl 0, .inl 0, .inl 0, .inl 0, .inl 0, .inl 0, .inl 0, .inl 0, .inl 0, .inl 0, .inl 0, .inl 0, .inl 0, .inl 0, .inl 0, .inl 0, .inl 0, .inl 0, .inl 0, .inl 0, .inl 0, .inl 0, .inl 0, .inl 0, .inl 0, .inl 0, .inl 0, .inl 0, .inl 0, .inl 0, .inl 0, .inl 0, .inl 0, .inl 0, .inl 0, .inl 0, .inl 0, .inl 0, .inl 0, .inl 0, .inl 0, .inl 0, .inl 0, .inl 0, .inl 0, .inl 0, .inl 0, .inl 0, .inl 0, .inl 0, .inl 0, .inl 0, .inl 0, .inl 0, .inl 0, .inl 0, .inl 0, .inl 0, .inl 0, .inl 0, .inl 0, .inl 0, .inl 0, .inl 0, .inl 0, .inl 0, .inl 0, .inl 0, .inl 0, .inl 0, .inl 0, .inl 0, .inl 0, .inl 0, .inl 0, .inl 0, .inl 0, .inl 0, .inl 0, .inl 0, .inl 0, .inl 0, .inl 0, .inl 0, .inl 0, .inl 0, .inl 0, .inl 0, .inl 0, .inl 0, .inl 0, .inl 0, .inl 0, .inl 0, .inl 0, .inl 0, .inl 0, .inl 0, .inl 0, .inl 0, .inl 0, .inl 0, .inl 0, .inl 0, .inl 0, .inl 0, .inl 0, .inl 0, .inl 0, .inl 0, .inl 0, .inl 0, .inl 0, .inl 0, .inl 0, .inl 0, .inl 0, .inl 0, .inl 0, .inl 0, .inl 0, .inl 0, .inl 0, .inl 0, .inl 0, .inl 0, .inl 0, .inl 0, .inl 0, .inl 0, .inl 0, .inl 0, .inl 0, .inl 0, .inl 0, .inl 0, .inl 0, .inl 0, .inl 0, .inl 0, .inl 0, .inl 0, .inl 0, .inl 0, .inl 0, .inl 0, .inl 0, .inl 0, .inl 0, .inl 0, .inl 0, .inl 0, .inl 0, .inl 0, .inl 0, .inl 0, .inl 0, .inl 0, .inl 0, .inl 0, .inl 0, .inl 0, .inl 0, .inl 0, .inl 0, .inl 0, .inl 0, .inl 0, .inl 0, .inl 0, .inl 0, .inl 0, .inl 0, .inl 0, .inl 0, .inl 0, .inl 0, .inl 0, .inl 0, .inl 0, .inl 0, .inl 0, .inl 0, .inl 0, .inl 0, .inl 0, .inl 0, .inl 0, .inl 0, .inl 0, .inl 0, .inl 0, .inl 0, .inl 0, .inl 0, .inl 0, .inl 0, .inl 0, .inl 0, .inl 0, .inl 0, .inl 0, .inl 0, .inl 0, .inl 0, .inl 0, .inl 0, .inl 0, .inl 0, .inl 0, .inl 0, .inl 0, .inl 0, .inl 0, .inl 0, .inl 0, .inl 0, .inl 0, .inl 0, .inl 0, .inl 0, .inl 0, .inl 0, .inl 0, .inl 0, .inl 0, .inl 0, .inl 0, .inl 0, .inl 0, .inl 0, .inl 0, .inl 0, .inl 0, .inl 0, .inl 0, .inl 0, .inl 0, .inl 0, .inl 0, .inl 0, .inl 0, .inl 0, .inl 0, .inl 0, .inl 0, .inl 0, .inl 0, .inl 0, .inl 0, .inl 0, .inl 0, .inl 0, .inl 0, .inl 0, .inl 0, .inl 0, .inl 0, .inl 0, .inl 0, .inl 0, .inl 0, .inl 0, .inl 0, .inl 0, .inl 0, .inl 0, .inl 0, .inl 0, .inl 0, .inl 0, .inl 0, .inl 0, .inl 0, .inl 0, .inl 0, .inl 0, .inl 0, .inl 0, .inl 0, .inl 0, .inl 0, .inl 0, .inl 0, .inl 0, .inl 0, .inl 0, .inl 0, .inl 0, .inl 0, .inl 0, .inl 0, .inl 0, .inl 0, .inl 0, .inl 0, .inl 0, .inl 0, .inl 0, .inl 0, .inl 0, .inl 0, .inl 0, .inl 0, .inl 0, .inl 0, .inl 0, .inl 0, .inl 0, .inl 0, .inl 0, .inl 0, .inl 0, .inl 0, .inl 0, .inl 0, .inl 0, .inl 0, .inl 0, .inl 0, .inl 0, .inl 0, .inl 0, .inl 0, .inl 0, .inl 0, .inl 0, .inl 0, .inl 0, .inl 0, .inl 0, .inl 0, .inl 0, .inl 0, .inl 0, .inl 0, .inl 0, .inl 0, .inl 0, .inl 0, .inl 0]), .inr (8, [.inr (.inl (some 50))])]
noncomputable def zx_w0_5 : zx_Wd := [.inl (0, List.replicate 96 (.inl 0)), .inl (2, List.replicate 3 (.inl 0)), .inr (3, [.inl 9, .inr (.inl (some 53))]), .inl (0, [.inl 0, .inl 3, .inl 4, .inl 4, .inl 4, .inl 5, .inl 5, .inl 1, .inl 4, .inl 6, .inl 2, .inl 4, .inl 6, .inl 2, .inl 2, .inl 5, .inl 5, .inl 5, .inl 1, .inl 4, .inl 3, .inl 2, .inl 3, .inl 3, .inl 3, .inl 4, .inl 4, .inl 4, .inl 3, .inl 5, .inl 5, .inl 3, .inl 2, .inl 4, .inl 4, .inl 6, .inl 4, .inl 4, .inl 4, .inl 3, .inl 2, .inl 5, .inl 2, .inl 2, .inl 6, .inl 3, .inl 3, .inl 3, .inl 5, .inl 6, .inl 2, .inl 2, .inl 5, .inl 3, .inl 3, .inl 5, .inl 3, .inl 3, .inl 3, .inl 6, .inl 1, .inl 4, .inl 5, .inl 1]), .inl (0, [.inl 0, .inl 60, .inl 7, .inl 18, .inl 63, .inl 40, .inl 51, .inl 14, .inl 43, .inl 10, .inl 21, .inl 50, .inl 32, .inl 13, .inl 42, .inl 20, .inl 47, .inl 58, .inl 23, .inl 54, .inl 1, .inl 46, .inl 28, .inl 57, .inl 22, .inl 24, .inl 53, .inl 39, .inl 45, .inl 31, .inl 56, .inl 27, .inl 38, .inl 3, .inl 34, .inl 61, .inl 26, .inl 8, .inl 37, .inl 2, .inl 4, .inl 33, .inl 19, .inl 25, .inl 11, .inl 36, .inl 30, .inl 41, .inl 6, .inl 52, .inl 17, .inl 62, .inl 48, .inl 29, .inl 15, .inl 5, .inl 55, .inl 16, .inl 44, .inl 9, .inl 59, .inl 49, .inl 35, .inl 12]), .inr (7, [.inr (.inl (some 56)), .inr (.inl (some 57)), .inr (.inl (some 58)), .inr (.inl (some 59)), .inr (.inl (some 60)), .inl 0, .inl 0, .inl 0, .inl 0, .inl 0, .inl 0]), .inl (0, List.replicate 5 (.inl 0)), .inl (0, List.replicate 5 (.inl 0)), .inl (0, List.replicate 25 (.inl 0)), .inl (0, List.replicate 25 (.inl 0))]
noncomputable def zx_w0_6 : zx_Wd := [.inl (0, List.replicate 5 (.inl 0)), .inr (0, [.inl 0, .inl 0, .inr (.inl (some 62)), .inr (.inl (some 63))]), .inl (0, List.replicate 25 (.inl 0)), .inl (0, List.replicate 25 (.inl 0)), .inr (2, [.inl 0, .inl 0, .inl 0, .inl 0, .inr (.inl (some 65)), .inr (.inl (some 66)), .inr (.inl (some 67)), .inr (.inl (some 68)), .inr (.inl (some 69)), .inr (.inl (some 70)), .inr (.inl (some 71))]), .inl (0, List.replicate 155 (.inl 0)), .inl (0, List.replicate 30 (.inl 0)), .inl (0, List.replicate 30 (.inl 0)), .inl (2, List.replicate 30 (.inl 0)), .inl (0, List.replicate 30 (.inl 0))]
noncomputable def zx_w0_7 : zx_Wd := [.inl (0, List.replicate 30 (.inl 0)), .inl (0, List.replicate 100 (.inl 0)), .inl (0, List.replicate 64 (.inl 0)), .inr (12, [.inr (.inl (some 74)), .inr (.inl (some 75)), .inl 0, .inl 0, .inl 0, .inl 4294967295, .inl 0, .inl 0, .inl 0, .inl 0, .inr (.inr (.inl 0)), .inr (.inl (some 76)), .inr (.inl (some 77)), .inr (.inl (some 78)), .inr (.inl (some 79)), .inr (.inl (some 80)), .inr (.inl (some 81)), .inr (.inl (some 82)), .inr (.inl (some 83)), .inr (.inl (some 84)), .inr (.inl (some 85)), .inr (.inl (some 86)), .inr (.inl (some 87)), .inr (.inl (some 88)), .inr (.inl (some 89)), .inr (.inl (some 90)), .inr (.inl (some 91)), .inr (.inl (some 92)), .inr (.inl (some 93)), .inr (.inl (some 94)), .inl 0, .inl 0, .inl 0, .inl 0, .inl 0, .inl 0, .inl 0, .inl 0, .inl 0, .inl 0, .inr (.inl (some 95)), .inr (.inl (some 96)), .inl 4294967295, .inr (.inl (some 97)), .inl 0, .inl 0, .inr (.inl (some 98)), .inl 0, .inr (.inl (some 99)), .inr (.inl (some 100)), .inr (.inl (some 101)), .inr (.inl (some 102)), .inr (.inl (some 103)), .inr (.inl (some 104)), .inr (.inl (some 105)), .inr (.inl (some 106)), .inl 0, .inl 0, .inr (.inl (some 107)), .inr (.inl (some 108))]), .inl (1, List.replicate 1620 (.inl 0)), .inl (1, List.replicate 1600 (.inl 0)), .inl (0, List.replicate 2 (.inl 0)), .inl (0, List.replicate 2 (.inl 0)), .inl (0, List.replicate 2 (.inl 0)), .inl (0, List.replicate 2 (.inl 0))]
noncomputable def zx_w0_8 : zx_Wd := [.inl (0, List.replicate 2 (.inl 0)), .inl (0, List.replicate 2 (.inl 0)), .inl (0, List.replicate 10 (.inl 0)), .inl (0, List.replicate 10 (.inl 0)), .inl (0, List.replicate 10 (.inl 0)), .inl (0, List.replicate 10 (.inl 0)), .inl (0, List.replicate 2 (.inl 0)), .inl (0, List.replicate 2 (.inl 0)), .inl (3, List.replicate 10 (.inr (.inr (.inl 0)))), .inl (3, List.replicate 10 (.inr (.inr (.inl 0))))]
noncomputable def zx_w0_9 : zx_Wd := [.inl (0, List.replicate 1120 (.inl 0)), .inl (0, List.replicate 1120 (.inl 0)), .inl (0, List.replicate 90 (.inl 0)), .inl (0, List.replicate 90 (.inl 0)), .inl (0, List.replicate 60 (.inl 0)), .inl (0, [.inl 0, .inl 0, .inl 0, .inl 0, .inl 0, .inl 0, .inl 0, .inl 0, .inl 0, .inl 0, .inl 4294967295, .inl 4294967295, .inl 4294967295, .inl 4294967295, .inl 4294967295, .inl 0, .inl 0, .inl 0, .inl 0, .inl 0, .inl 0, .inl 0, .inl 0, .inl 0, .inl 0, .inl 0, .inl 0, .inl 0, .inl 0, .inl 0, .inl 0, .inl 0]), .inl (0, List.replicate 32 (.inl 0)), .inl (0, List.replicate 1312 (.inl 0)), .inl (0, List.replicate 64 (.inl 0)), .inl (0, List.replicate 64 (.inl 0))]
noncomputable def zx_w0_10 : zx_Wd := [.inl (0, List.replicate 155 (.inl 0)), .inl (0, List.replicate 30 (.inl 0)), .inl (0, List.replicate 30 (.inl 0)), .inl (0, List.replicate 30 (.inl 0)), .inl (0, List.replicate 30 (.inl 0)), .inl (0, List.replicate 30 (.inl 0)), .inl (0, List.replicate 100 (.inl 0)), .inl (0, List.replicate 96 (.inl 0)), .inl (2, List.replicate 3 (.inl 0))]
noncomputable def zx_w0 : zx_Wd := zx_w0_0 ++ (zx_w0_1 ++ (zx_w0_2 ++ (zx_w0_3 ++ (zx_w0_4 ++ (zx_w0_5 ++ (zx_w0_6 ++ (zx_w0_7 ++ (zx_w0_8 ++ (zx_w0_9 ++ (zx_w0_10))))))))))
def zx_l0 : zx_L := [(3, .inl 0), (2, .inr (.inl (some 73))), (1, .inr (.inl (some 0))), (0, .inr (.inr (.inr (.inr (.inl 1)))))]
end
section
/-! the constructors, run by the kernel -/
set_option maxRecDepth 100000 in
theorem zv_init : zx_pz (zx_run zx_xa0 100000 (30, 0, 18, 200, 20000) zx_g0 [] 0 0 [(0, .inr (.inr (.inr (.inr (.inl 1)))))] [] 0) zx_g0 zx_w0 109 19183 zx_l0 [] = true := by decide +kernel
end
section
/-! the calls on fresh objects, run by the kernel -/
def zx_gr (lo hi : Int) : zx_G := [zx_full, (lo, hi), zx_full, zx_full, zx_full, zx_full]
noncomputable def zx_vs (pc : Nat) (lo hi : Int) : Bool := zx_fin (zx_run zx_xa 100000 (30, 0, 1000000, 200, 20000) (zx_gr lo hi) zx_w0 109 19183 zx_l0 [] pc)
set_option maxRecDepth 100000 in
theorem zv_0_a : zx_vs 244 (-2147483648) 2147483647 = true := by decide +kernel
set_option maxRecDepth 100000 in
theorem zv_1_a : zx_vs 307 (-2147483648) 2147483647 = true := by decide +kernel
set_option maxRecDepth 100000 in
theorem zv_2_a : zx_vs 330 (-2147483648) 2147483647 = true := by decide +kernel
set_option maxRecDepth 100000 in
theorem zv_3_m : zx_vs 343 (-2147483648) (-1) = true := by decide +kernel
set_option maxRecDepth 100000 in
theorem zv_3_p : zx_vs 343 2 2147483647 = true := by decide +kernel
set_option maxRecDepth 100000 in
theorem zv_3_0 : zx_vs 343 0 0 = true := by decide +kernel
set_option maxRecDepth 100000 in
theorem zv_3_1 : zx_vs 343 1 1 = true := by decide +kernel
set_option maxRecDepth 100000 in
theorem zv_4_a : zx_vs 366 (-2147483648) 2147483647 = true := by decide +kernel
set_option maxRecDepth 100000 in
theorem zv_5_a : zx_vs 399 (-2147483648) 2147483647 = true := by decide +kernel
set_option maxRecDepth 100000 in
theorem zv_6_a : zx_vs 432 (-2147483648) 2147483647 = true := by decide +kernel
set_option maxRecDepth 100000 in
theorem zv_7_a : zx_vs 465 (-2147483648) 2147483647 = true := by decide +kernel
set_option maxRecDepth 100000 in
theorem zv_8_a : zx_vs 478 (-2147483648) 2147483647 = true := by decide +kernel
set_option maxRecDepth 100000 in
theorem zv_9_a : zx_vs 511 (-2147483648) 2147483647 = true := by decide +kernel
set_option maxRecDepth 100000 in
theorem zv_10_a : zx_vs 534 (-2147483648) 2147483647 = true := by decide +kernel
set_option maxRecDepth 100000 in
theorem zv_11_a : zx_vs 567 (-2147483648) 2147483647 = true := by decide +kernel
set_option maxRecDepth 100000 in
theorem zv_12_a : zx_vs 600 (-2147483648) 2147483647 = true := by decide +kernel
set_option maxRecDepth 100000 in
theorem zv_13_a : zx_vs 633 (-2147483648) 2147483647 = true := by decide +kernel
set_option maxRecDepth 100000 in
theorem zv_14_a : zx_vs 646 (-2147483648) 2147483647 = true := by decide +kernel
set_option maxRecDepth 100000 in
theorem zv_15_a : zx_vs 659 (-2147483648) 2147483647 = true := by decide +kernel
set_option maxRecDepth 100000 in
theorem zv_16_m : zx_vs 692 (-2147483648) (-1) = true := by decide +kernel
set_option maxRecDepth 100000 in
theorem zv_16_p : zx_vs 692 61 2147483647 = true := by decide +kernel
set_option maxRecDepth 100000 in
theorem zv_17_a : zx_vs 715 (-2147483648) 2147483647 = true := by decide +kernel
set_option maxRecDepth 100000 in
theorem zv_18_a : zx_vs 738 (-2147483648) 2147483647 = true := by decide +kernel
set_option maxRecDepth 100000 in
theorem zv_19_a : zx_vs 751 (-2147483648) 2147483647 = true := by decide +kernel
set_option maxRecDepth 100000 in
theorem zv_20_a : zx_vs 774 (-2147483648) 2147483647 = true := by decide +kernel
set_option maxRecDepth 100000 in
theorem zv_21_a : zx_vs 797 (-2147483648) 2147483647 = true := by decide +kernel
set_option maxRecDepth 100000 in
theorem zv_22_a : zx_vs 820 (-2147483648) 2147483647 = true := by decide +kernel
set_option maxRecDepth 100000 in
theorem zv_23_a : zx_vs 833 (-2147483648) 2147483647 = true := by decide +kernel
set_option maxRecDepth 100000 in
theorem zv_24_a : zx_vs 856 (-2147483648) 2147483647 = true := by decide +kernel
set_option maxRecDepth 100000 in
theorem zv_25_a : zx_vs 889 (-2147483648) 2147483647 = true := by decide +kernel
set_option maxRecDepth 100000 in
theorem zv_26_a : zx_vs 922 (-2147483648) 2147483647 = true := by decide +kernel
set_option maxRecDepth 100000 in
theorem zv_27_a : zx_vs 955 (-2147483648) 2147483647 = true := by decide +kernel
set_option maxRecDepth 100000 in
theorem zv_28_a : zx_vs 988 (-2147483648) 2147483647 = true := by decide +kernel
set_option maxRecDepth 100000 in
theorem zv_29_a : zx_vs 1001 (-2147483648) 2147483647 = true := by decide +kernel
set_option maxRecDepth 100000 in
theorem zv_30_a : zx_vs 1014 (-2147483648) 2147483647 = true := by decide +kernel
set_option maxRecDepth 100000 in
theorem zv_31_a : zx_vs 1027 (-2147483648) 2147483647 = true := by decide +kernel
set_option maxRecDepth 100000 in
theorem zv_32_a : zx_vs 1040 (-2147483648) 2147483647 = true := by decide +kernel
set_option maxRecDepth 100000 in
theorem zv_33_a : zx_vs 1053 (-2147483648) 2147483647 = true := by decide +kernel
set_option maxRecDepth 100000 in
theorem zv_34_a : zx_vs 1066 (-2147483648) 2147483647 = true := by decide +kernel
set_option maxRecDepth 100000 in
theorem zv_35_a : zx_vs 1079 (-2147483648) 2147483647 = true := by decide +kernel
set_option maxRecDepth 100000 in
theorem zv_36_a : zx_vs 1092 (-2147483648) 2147483647 = true := by decide +kernel
set_option maxRecDepth 100000 in
theorem zv_37_m : zx_vs 1115 (-2147483648) (-1) = true := by decide +kernel
set_option maxRecDepth 100000 in
theorem zv_37_p : zx_vs 1115 2 2147483647 = true := by decide +kernel
set_option maxRecDepth 100000 in
theorem zv_38_a : zx_vs 1138 (-2147483648) 2147483647 = true := by decide +kernel
set_option maxRecDepth 100000 in
theorem zv_39_a : zx_vs 1171 (-2147483648) 2147483647 = true := by decide +kernel
set_option maxRecDepth 100000 in
theorem zv_40_a : zx_vs 1194 (-2147483648) 2147483647 = true := by decide +kernel
set_option maxRecDepth 100000 in
theorem zv_41_a : zx_vs 1253 (-2147483648) 2147483647 = true := by decide +kernel
set_option maxRecDepth 100000 in
theorem zv_42_a : zx_vs 1276 (-2147483648) 2147483647 = true := by decide +kernel
set_option maxRecDepth 100000 in
theorem zv_43_a : zx_vs 1299 (-2147483648) 2147483647 = true := by decide +kernel
set_option maxRecDepth 100000 in
theorem zv_44_a : zx_vs 1322 (-2147483648) 2147483647 = true := by decide +kernel
set_option maxRecDepth 100000 in
theorem zv_45_a : zx_vs 1355 (-2147483648) 2147483647 = true := by decide +kernel
set_option maxRecDepth 100000 in
theorem zv_46_m : zx_vs 1388 (-2147483648) (-1) = true := by decide +kernel
set_option maxRecDepth 100000 in
theorem zv_46_p : zx_vs 1388 3 2147483647 = true := by decide +kernel
set_option maxRecDepth 100000 in
theorem zv_46_0 : zx_vs 1388 0 0 = true := by decide +kernel
set_option maxRecDepth 100000 in
theorem zv_46_1 : zx_vs 1388 1 1 = true := by decide +kernel
set_option maxRecDepth 100000 in
theorem zv_46_2 : zx_vs 1388 2 2 = true := by decide +kernel
set_option maxRecDepth 100000 in
theorem zv_47_m : zx_vs 1411 (-2147483648) (-1) = true := by decide +kernel
set_option maxRecDepth 100000 in
theorem zv_47_p : zx_vs 1411 3 2147483647 = true := by decide +kernel
set_option maxRecDepth 100000 in
theorem zv_47_0 : zx_vs 1411 0 0 = true := by decide +kernel
set_option maxRecDepth 100000 in
theorem zv_47_1 : zx_vs 1411 1 1 = true := by decide +kernel
set_option maxRecDepth 100000 in
theorem zv_47_2 : zx_vs 1411 2 2 = true := by decide +kernel
set_option maxRecDepth 100000 in
theorem zv_48_m : zx_vs 1434 (-2147483648) (-1) = true := by decide +kernel
set_option maxRecDepth 100000 in
theorem zv_48_p : zx_vs 1434 14 2147483647 = true := by decide +kernel
set_option maxRecDepth 100000 in
theorem zv_48_0 : zx_vs 1434 0 0 = true := by decide +kernel
set_option maxRecDepth 100000 in
theorem zv_48_1 : zx_vs 1434 1 1 = true := by decide +kernel
set_option maxRecDepth 100000 in
theorem zv_48_2 : zx_vs 1434 2 2 = true := by decide +kernel
set_option maxRecDepth 100000 in
theorem zv_48_3 : zx_vs 1434 3 3 = true := by decide +kernel
set_option maxRecDepth 100000 in
theorem zv_48_4 : zx_vs 1434 4 4 = true := by decide +kernel
set_option maxRecDepth 100000 in
theorem zv_48_5 : zx_vs 1434 5 5 = true := by decide +kernel
set_option maxRecDepth 100000 in
theorem zv_48_6 : zx_vs 1434 6 6 = true := by decide +kernel
set_option maxRecDepth 100000 in
theorem zv_48_7 : zx_vs 1434 7 7 = true := by decide +kernel
set_option maxRecDepth 100000 in
theorem zv_48_8 : zx_vs 1434 8 8 = true := by decide +kernel
set_option maxRecDepth 100000 in
theorem zv_48_9 : zx_vs 1434 9 9 = true := by decide +kernel
set_option maxRecDepth 100000 in
theorem zv_48_10 : zx_vs 1434 10 10 = true := by decide +kernel
set_option maxRecDepth 100000 in
theorem zv_48_11 : zx_vs 1434 11 11 = true := by decide +kernel
set_option maxRecDepth 100000 in
theorem zv_48_12 : zx_vs 1434 12 12 = true := by decide +kernel
set_option maxRecDepth 100000 in
theorem zv_48_13 : zx_vs 1434 13 13 = true := by decide +kernel
set_option maxRecDepth 100000 in
theorem zv_49_a : zx_vs 1457 (-2147483648) 2147483647 = true := by decide +kernel
end
section
/-! standing(n), n from 0 to 60 -/
set_option maxRecDepth 100000 in
theorem zv_16_0 : zx_vs 692 0 0 = true := by decide +kernel
set_option maxRecDepth 100000 in
theorem zv_16_1 : zx_vs 692 1 1 = true := by decide +kernel
set_option maxRecDepth 100000 in
theorem zv_16_2 : zx_vs 692 2 2 = true := by decide +kernel
set_option maxRecDepth 100000 in
theorem zv_16_3 : zx_vs 692 3 3 = true := by decide +kernel
set_option maxRecDepth 100000 in
theorem zv_16_4 : zx_vs 692 4 4 = true := by decide +kernel
set_option maxRecDepth 100000 in
theorem zv_16_5 : zx_vs 692 5 5 = true := by decide +kernel
set_option maxRecDepth 100000 in
theorem zv_16_6 : zx_vs 692 6 6 = true := by decide +kernel
set_option maxRecDepth 100000 in
theorem zv_16_7 : zx_vs 692 7 7 = true := by decide +kernel
set_option maxRecDepth 100000 in
theorem zv_16_8 : zx_vs 692 8 8 = true := by decide +kernel
set_option maxRecDepth 100000 in
theorem zv_16_9 : zx_vs 692 9 9 = true := by decide +kernel
set_option maxRecDepth 100000 in
theorem zv_16_10 : zx_vs 692 10 10 = true := by decide +kernel
set_option maxRecDepth 100000 in
theorem zv_16_11 : zx_vs 692 11 11 = true := by decide +kernel
set_option maxRecDepth 100000 in
theorem zv_16_12 : zx_vs 692 12 12 = true := by decide +kernel
set_option maxRecDepth 100000 in
theorem zv_16_13 : zx_vs 692 13 13 = true := by decide +kernel
set_option maxRecDepth 100000 in
theorem zv_16_14 : zx_vs 692 14 14 = true := by decide +kernel
set_option maxRecDepth 100000 in
theorem zv_16_15 : zx_vs 692 15 15 = true := by decide +kernel
set_option maxRecDepth 100000 in
theorem zv_16_16 : zx_vs 692 16 16 = true := by decide +kernel
set_option maxRecDepth 100000 in
theorem zv_16_17 : zx_vs 692 17 17 = true := by decide +kernel
set_option maxRecDepth 100000 in
theorem zv_16_18 : zx_vs 692 18 18 = true := by decide +kernel
set_option maxRecDepth 100000 in
theorem zv_16_19 : zx_vs 692 19 19 = true := by decide +kernel
set_option maxRecDepth 100000 in
theorem zv_16_20 : zx_vs 692 20 20 = true := by decide +kernel
set_option maxRecDepth 100000 in
theorem zv_16_21 : zx_vs 692 21 21 = true := by decide +kernel
set_option maxRecDepth 100000 in
theorem zv_16_22 : zx_vs 692 22 22 = true := by decide +kernel
set_option maxRecDepth 100000 in
theorem zv_16_23 : zx_vs 692 23 23 = true := by decide +kernel
set_option maxRecDepth 100000 in
theorem zv_16_24 : zx_vs 692 24 24 = true := by decide +kernel
set_option maxRecDepth 100000 in
theorem zv_16_25 : zx_vs 692 25 25 = true := by decide +kernel
set_option maxRecDepth 100000 in
theorem zv_16_26 : zx_vs 692 26 26 = true := by decide +kernel
set_option maxRecDepth 100000 in
theorem zv_16_27 : zx_vs 692 27 27 = true := by decide +kernel
set_option maxRecDepth 100000 in
theorem zv_16_28 : zx_vs 692 28 28 = true := by decide +kernel
set_option maxRecDepth 100000 in
theorem zv_16_29 : zx_vs 692 29 29 = true := by decide +kernel
set_option maxRecDepth 100000 in
theorem zv_16_30 : zx_vs 692 30 30 = true := by decide +kernel
set_option maxRecDepth 100000 in
theorem zv_16_31 : zx_vs 692 31 31 = true := by decide +kernel
set_option maxRecDepth 100000 in
theorem zv_16_32 : zx_vs 692 32 32 = true := by decide +kernel
set_option maxRecDepth 100000 in
theorem zv_16_33 : zx_vs 692 33 33 = true := by decide +kernel
set_option maxRecDepth 100000 in
theorem zv_16_34 : zx_vs 692 34 34 = true := by decide +kernel
set_option maxRecDepth 100000 in
theorem zv_16_35 : zx_vs 692 35 35 = true := by decide +kernel
set_option maxRecDepth 100000 in
theorem zv_16_36 : zx_vs 692 36 36 = true := by decide +kernel
set_option maxRecDepth 100000 in
theorem zv_16_37 : zx_vs 692 37 37 = true := by decide +kernel
set_option maxRecDepth 100000 in
theorem zv_16_38 : zx_vs 692 38 38 = true := by decide +kernel
set_option maxRecDepth 100000 in
theorem zv_16_39 : zx_vs 692 39 39 = true := by decide +kernel
set_option maxRecDepth 100000 in
theorem zv_16_40 : zx_vs 692 40 40 = true := by decide +kernel
set_option maxRecDepth 100000 in
theorem zv_16_41 : zx_vs 692 41 41 = true := by decide +kernel
set_option maxRecDepth 100000 in
theorem zv_16_42 : zx_vs 692 42 42 = true := by decide +kernel
set_option maxRecDepth 100000 in
theorem zv_16_43 : zx_vs 692 43 43 = true := by decide +kernel
set_option maxRecDepth 100000 in
theorem zv_16_44 : zx_vs 692 44 44 = true := by decide +kernel
set_option maxRecDepth 100000 in
theorem zv_16_45 : zx_vs 692 45 45 = true := by decide +kernel
set_option maxRecDepth 100000 in
theorem zv_16_46 : zx_vs 692 46 46 = true := by decide +kernel
set_option maxRecDepth 100000 in
theorem zv_16_47 : zx_vs 692 47 47 = true := by decide +kernel
set_option maxRecDepth 100000 in
theorem zv_16_48 : zx_vs 692 48 48 = true := by decide +kernel
set_option maxRecDepth 100000 in
theorem zv_16_49 : zx_vs 692 49 49 = true := by decide +kernel
set_option maxRecDepth 100000 in
theorem zv_16_50 : zx_vs 692 50 50 = true := by decide +kernel
set_option maxRecDepth 100000 in
theorem zv_16_51 : zx_vs 692 51 51 = true := by decide +kernel
set_option maxRecDepth 100000 in
theorem zv_16_52 : zx_vs 692 52 52 = true := by decide +kernel
set_option maxRecDepth 100000 in
theorem zv_16_53 : zx_vs 692 53 53 = true := by decide +kernel
set_option maxRecDepth 100000 in
theorem zv_16_54 : zx_vs 692 54 54 = true := by decide +kernel
set_option maxRecDepth 100000 in
theorem zv_16_55 : zx_vs 692 55 55 = true := by decide +kernel
set_option maxRecDepth 100000 in
theorem zv_16_56 : zx_vs 692 56 56 = true := by decide +kernel
set_option maxRecDepth 100000 in
theorem zv_16_57 : zx_vs 692 57 57 = true := by decide +kernel
set_option maxRecDepth 100000 in
theorem zv_16_58 : zx_vs 692 58 58 = true := by decide +kernel
set_option maxRecDepth 100000 in
theorem zv_16_59 : zx_vs 692 59 59 = true := by decide +kernel
set_option maxRecDepth 100000 in
theorem zv_16_60 : zx_vs 692 60 60 = true := by decide +kernel
end
section
/-! runs that are cut, and put together -/
section ZU
variable {xa : List (Nat × Nat × List zx_V)} {ρ : Nat → Int32} {ex : Nat → Value} {D : va_G}
def zt_T (xa : List (Nat × Nat × List zx_V)) (ρ : Nat → Int32) (ex : Nat → Value) (D : va_G) (fr : zx_Fr) (g : zx_G) (w : zx_Wd) (cs sl : Nat) (lo : zx_L) (st : List zx_V) (pc : Nat) (outs : List zx_O) : Prop := ∀ _ : Unit, zy_T xa ρ ex D fr g w cs sl lo st pc outs
theorem zt_run {n : Nat} {fr : zx_Fr} {g : zx_G} {w : zx_Wd} {cs sl pc : Nat} {lo : zx_L} {st : List zx_V} {outs : List zx_O} (h : zx_run xa n fr g w cs sl lo st pc = some outs) : zt_T xa ρ ex D fr g w cs sl lo st pc outs := by
  intro _ p l e R s m args below meth c A as tys ws H locs ls sv Q C Dy hl hs hret
  exact zs_run zk_tt zk_aa n _ _ _ _ _ _ _ _ _ h C Dy hl hs hret
theorem zt_one {r : zx_Rec} (hr : zy_Snd xa ρ ex D r) {fr : zx_Fr} {g : zx_G} {w : zx_Wd} {cs sl k pc : Nat} {lo : zx_L} {st : List zx_V} {outs : List zx_O} (hk : fr.2.1 = k) (h : zx_ent xa k pc r fr g w cs sl lo st pc = some outs) : zt_T xa ρ ex D fr g w cs sl lo st pc outs := by
  intro _ p l e R s m args below meth c A as tys ws H locs ls sv Q C Dy hl hs hret
  exact zs_ent zk_tt zk_aa r hr fr g w cs sl lo st outs hk h C Dy hl hs hret
theorem zt_go {d k bp mc ms : Nat} {g g2 : zx_G} {w w2 : zx_Wd} {cs sl cs2 sl2 pc : Nat} {lo lo2 : zx_L} {st st2 : List zx_V} {outs : List zx_O} (h1 : zt_T xa ρ ex D (d, k, bp, mc, ms) g w cs sl lo st pc [(g2, w2, .inr (cs2, sl2, lo2, st2))]) (h2 : zt_T xa ρ ex D (d, k, bp, mc, ms) g2 w2 cs2 sl2 lo2 st2 bp outs) : zt_T xa ρ ex D (d, k, bp, mc, ms) g w cs sl lo st pc outs := by
  intro _ p l e R s m args below meth c A as tys ws H locs ls sv Q C Dy hl hs hret
  refine h1 () C Dy hl hs ?_
  intro o ho as' tys' ws' H' locs' hp
  have ho : o = (g2, w2, .inr (cs2, sl2, lo2, st2)) := by
    rcases List.mem_cons.mp ho with z | z
    · exact z
    · cases z
  subst ho
  refine ⟨fun rv hrv => (by cases hrv), fun cs' sl' lo' st' hq ls' sv' Dy hl' hs' => ?_⟩
  cases hq
  exact h2 () C Dy hl' hs' (hret.mono hp (fun _ z => z))
theorem zt_bp {d k bp bp2 mc ms : Nat} {g : zx_G} {w : zx_Wd} {cs sl pc : Nat} {lo : zx_L} {st : List zx_V} {outs : List zx_O} (h : zt_T xa ρ ex D (d, k, bp, mc, ms) g w cs sl lo st pc outs) (ho : ∀ o ∈ outs, ∃ rv, o.2.2 = .inl rv) : zt_T xa ρ ex D (d, k, bp2, mc, ms) g w cs sl lo st pc outs := by
  intro _ p l e R s m args below meth c A as tys ws H locs ls sv Q C Dy hl hs hret
  refine h () C Dy hl hs ?_
  intro o hm as' tys' ws' H' locs' hp
  refine ⟨(hret o hm as' tys' ws' H' locs' hp).1, fun cs' sl' lo' st' hq => ?_⟩
  obtain ⟨rv, z⟩ := ho o hm
  rw [z] at hq
  cases hq
theorem zt_mem {g : zx_G} {w : zx_Wd} {rv : Option zx_V} {o : zx_O} (h : o ∈ [(g, w, (.inl rv : Option zx_V ⊕ (Nat × Nat × zx_L × List zx_V)))]) : o.2.2 = .inl rv := by
  rcases List.mem_cons.mp h with z | z
  · rw [z]
  · cases z
theorem zt_g {fr : zx_Fr} {w w2 : zx_Wd} {cs sl pc : Nat} {lo : zx_L} {st : List zx_V} {rv : Option zx_V} (h : zt_T xa ρ ex D fr [] w cs sl lo st pc [([], w2, .inl rv)]) (g : zx_G) : zt_T xa ρ ex D fr g w cs sl lo st pc [(g, w2, .inl rv)] := by
  intro _ p l e R s m args below meth c A as tys ws H locs ls sv Q C Dy hl hs hret
  have hg := Dy.2.2.2.2.2.1
  refine h () C (Dy.g (fun i q hq => by cases hq)) hl hs ?_
  intro o hm as' tys' ws' H' locs' hp
  have ho : o = ([], w2, .inl rv) := by
    rcases List.mem_cons.mp hm with z | z
    · exact z
    · cases z
  subst ho
  have hh := hret (g, w2, .inl rv) List.mem_cons_self as' tys' ws' H' locs' hp
  refine ⟨fun rv2 hrv cs' sl' pc' ls' st' Dy' hrt => hh.1 rv2 hrv cs' sl' pc' ls' st' (Dy'.g hg) hrt, fun cs' sl' lo' st' hq => ?_⟩
  cases hq
/-- an answer that is known, for just this call -/
noncomputable def zx_orc (fr1 : zx_Fr) (g1 : zx_G) (w1 : zx_Wd) (lo1 : zx_L) (o1 : List zx_O) (r : zx_Rec) : zx_Rec := fun fr g w cs sl lo st pc => cond (Nat.beq fr.2.1 fr1.2.1 && Nat.beq pc 0)
  (cond (decide (fr = fr1 ∧ cs = 0 ∧ sl = 0) && (zx_ls zx_ge g g1 && (zx_ls zx_pe lo lo1 && (zx_ls zx_ve st [] && zx_ls zx_ce w w1)))) (some o1) none) (r fr g w cs sl lo st pc)
theorem zo_snd {fr1 : zx_Fr} {g1 : zx_G} {w1 : zx_Wd} {lo1 : zx_L} {o1 : List zx_O} {r : zx_Rec} (hr : zy_Snd xa ρ ex D r) (hT : zt_T xa ρ ex D fr1 g1 w1 0 0 lo1 [] 0 o1) : zy_Snd xa ρ ex D (zx_orc fr1 g1 w1 lo1 o1 r) := by
  intro fr g w cs sl lo st pc outs h
  have h : cond (Nat.beq fr.2.1 fr1.2.1 && Nat.beq pc 0) (cond (decide (fr = fr1 ∧ cs = 0 ∧ sl = 0) && (zx_ls zx_ge g g1 && (zx_ls zx_pe lo lo1 && (zx_ls zx_ve st [] && zx_ls zx_ce w w1)))) (some o1) none) (r fr g w cs sl lo st pc) = some outs := h
  cases hb : (Nat.beq fr.2.1 fr1.2.1 && Nat.beq pc 0) with
  | false =>
    rw [hb] at h
    intro p l e R s m args below meth c A as tys ws H locs ls sv Q C Dy hl hs hret
    exact hr fr g w cs sl lo st pc outs h C Dy hl hs hret
  | true =>
    rw [hb] at h
    have h0 : pc = 0 := Nat.eq_of_beq_eq_true (Bool.and_eq_true_iff.mp hb).2
    obtain ⟨h1, h2⟩ := zx_cond h
    obtain ⟨a1, h1⟩ := Bool.and_eq_true_iff.mp h1
    obtain ⟨a2, h1⟩ := Bool.and_eq_true_iff.mp h1
    obtain ⟨a3, h1⟩ := Bool.and_eq_true_iff.mp h1
    obtain ⟨a4, a5⟩ := Bool.and_eq_true_iff.mp h1
    obtain ⟨b1, b2, b3⟩ := of_decide_eq_true a1
    have c2 : g = g1 := zx_ls_ok (fun _ _ z => of_decide_eq_true z) a2
    have c3 : lo = lo1 := zx_ls_ok zx_pe_ok a3
    have c4 : st = [] := zx_ls_ok (fun _ _ z => zx_ve_ok z) a4
    have c5 : w = w1 := zx_ls_ok zx_ce_ok a5
    cases h2
    rw [b1, b2, b3, c2, c3, c4, c5, h0]
    intro p l e R s m args below meth c A as tys ws H locs ls sv Q C Dy hl hs hret
    exact hT () C Dy hl hs hret
end ZU
/-- the fresh world with another table of moves -/
noncomputable def zx_wt (t : List Nat) : zx_Wd := zx_w0.set 99 (.inl (0, t.map fun n => .inl n))
/-- it returned, with just this -/
noncomputable def zx_pr (r : zx_R) (w : zx_Wd) (rv : Option zx_V) : Bool := match r with
  | some [(g2, w2, .inl v)] => zx_ls zx_ge g2 [] && ((match v, rv with | none, none => true | some a, some b => zx_ve a b | _, _ => false) && zx_ls zx_ce w2 w)
  | _ => false
theorem zx_pr_ok {r : zx_R} {w : zx_Wd} {rv : Option zx_V} (h : zx_pr r w rv = true) : r = some [([], w, .inl rv)] := by
  match r, h with
  | some [(g2, w2, .inl v)], h =>
    obtain ⟨h1, h⟩ := Bool.and_eq_true_iff.mp h
    obtain ⟨h2, h3⟩ := Bool.and_eq_true_iff.mp h
    have e : v = rv := by
      match v, rv, h2 with
      | none, none, _ => rfl
      | some a, some b, h2 => rw [zx_ve_ok h2]
    rw [zx_ls_ok (fun _ _ z => of_decide_eq_true z) h1, zx_ls_ok zx_ce_ok h3, e]
def zx_t0 : List Nat := [0, 100000, 100000, 100000, 100000, 100000, 100000, 100000, 100000, 100000, 100000, 100000, 100000, 100000, 100000, 100000, 100000, 100000, 100000, 100000, 100000, 100000, 100000, 100000, 100000, 100000, 100000, 100000, 100000, 100000, 100000, 100000, 100000, 100000, 100000, 100000, 100000, 100000, 100000, 100000, 100000, 100000, 100000, 100000, 100000, 100000, 100000, 100000, 100000, 100000, 100000, 100000, 100000, 100000, 100000, 100000, 100000, 100000, 100000, 100000, 100000, 100000, 100000, 100000]
def zx_t1 : List Nat := [0, 100000, 100000, 100000, 100000, 100000, 100000, 1, 100000, 100000, 100000, 100000, 100000, 100000, 100000, 100000, 100000, 100000, 1, 100000, 100000, 100000, 100000, 100000, 100000, 100000, 100000, 100000, 100000, 100000, 100000, 100000, 100000, 100000, 100000, 100000, 100000, 100000, 100000, 100000, 100000, 100000, 100000, 100000, 100000, 100000, 100000, 100000, 100000, 100000, 100000, 100000, 100000, 100000, 100000, 100000, 100000, 100000, 100000, 100000, 1, 100000, 100000, 1]
def zx_t2 : List Nat := [0, 100000, 100000, 100000, 100000, 100000, 100000, 1, 100000, 100000, 2, 100000, 100000, 2, 2, 100000, 100000, 100000, 1, 100000, 100000, 2, 100000, 100000, 100000, 100000, 100000, 100000, 100000, 100000, 100000, 100000, 2, 100000, 100000, 100000, 100000, 100000, 100000, 100000, 2, 100000, 2, 2, 100000, 100000, 100000, 100000, 100000, 100000, 2, 2, 100000, 100000, 100000, 100000, 100000, 100000, 100000, 100000, 1, 100000, 100000, 1]
def zx_t3 : List Nat := [0, 3, 100000, 100000, 100000, 100000, 100000, 1, 100000, 100000, 2, 100000, 100000, 2, 2, 100000, 100000, 100000, 1, 100000, 3, 2, 3, 3, 3, 100000, 100000, 100000, 3, 100000, 100000, 3, 2, 100000, 100000, 100000, 100000, 100000, 100000, 3, 2, 100000, 2, 2, 100000, 3, 3, 3, 100000, 100000, 2, 2, 100000, 3, 3, 100000, 3, 3, 3, 100000, 1, 100000, 100000, 1]
def zx_t4 : List Nat := [0, 3, 4, 4, 4, 100000, 100000, 1, 4, 100000, 2, 4, 100000, 2, 2, 100000, 100000, 100000, 1, 4, 3, 2, 3, 3, 3, 4, 4, 4, 3, 100000, 100000, 3, 2, 4, 4, 100000, 4, 4, 4, 3, 2, 100000, 2, 2, 100000, 3, 3, 3, 100000, 100000, 2, 2, 100000, 3, 3, 100000, 3, 3, 3, 100000, 1, 4, 100000, 1]
def zx_t5 : List Nat := [0, 3, 4, 4, 4, 5, 5, 1, 4, 100000, 2, 4, 100000, 2, 2, 5, 5, 5, 1, 4, 3, 2, 3, 3, 3, 4, 4, 4, 3, 5, 5, 3, 2, 4, 4, 100000, 4, 4, 4, 3, 2, 5, 2, 2, 100000, 3, 3, 3, 5, 100000, 2, 2, 5, 3, 3, 5, 3, 3, 3, 100000, 1, 4, 5, 1]
def zx_t6 : List Nat := [0, 3, 4, 4, 4, 5, 5, 1, 4, 6, 2, 4, 6, 2, 2, 5, 5, 5, 1, 4, 3, 2, 3, 3, 3, 4, 4, 4, 3, 5, 5, 3, 2, 4, 4, 6, 4, 4, 4, 3, 2, 5, 2, 2, 6, 3, 3, 3, 5, 6, 2, 2, 5, 3, 3, 5, 3, 3, 3, 6, 1, 4, 5, 1]
set_option maxRecDepth 100000 in
theorem zl_s : zx_pz (zx_run zx_xa 100000 (28, 150, 33, 0, 0) [] zx_w0 0 0 [(0, .inr (.inl (some 73)))] [] 0) [] (zx_wt zx_t0) 0 0 [(1, .inl 0), (0, .inr (.inl (some 73)))] [] = true := by decide +kernel
end
section
/-! layMoves, a round of its outer loop at a time -/
set_option maxRecDepth 100000 in
theorem zl_0 : zx_pz (zx_ent zx_xa 150 33 (zx_run zx_xa 100000) (28, 150, 33, 0, 0) [] (zx_wt zx_t0) 0 0 [(1, .inl 0), (0, .inr (.inl (some 73)))] [] 33) [] (zx_wt zx_t1) 0 0 [(1, .inl 1), (2, .inl 64), (3, .inl 4), (0, .inr (.inl (some 73)))] [] = true := by decide +kernel
set_option maxRecDepth 100000 in
theorem zl_1 : zx_pz (zx_ent zx_xa 150 33 (zx_run zx_xa 100000) (28, 150, 33, 0, 0) [] (zx_wt zx_t1) 0 0 [(1, .inl 1), (2, .inl 64), (3, .inl 4), (0, .inr (.inl (some 73)))] [] 33) [] (zx_wt zx_t2) 0 0 [(1, .inl 2), (2, .inl 64), (3, .inl 4), (0, .inr (.inl (some 73)))] [] = true := by decide +kernel
set_option maxRecDepth 100000 in
theorem zl_2 : zx_pz (zx_ent zx_xa 150 33 (zx_run zx_xa 100000) (28, 150, 33, 0, 0) [] (zx_wt zx_t2) 0 0 [(1, .inl 2), (2, .inl 64), (3, .inl 4), (0, .inr (.inl (some 73)))] [] 33) [] (zx_wt zx_t3) 0 0 [(1, .inl 3), (2, .inl 64), (3, .inl 4), (0, .inr (.inl (some 73)))] [] = true := by decide +kernel
set_option maxRecDepth 100000 in
theorem zl_3 : zx_pz (zx_ent zx_xa 150 33 (zx_run zx_xa 100000) (28, 150, 33, 0, 0) [] (zx_wt zx_t3) 0 0 [(1, .inl 3), (2, .inl 64), (3, .inl 4), (0, .inr (.inl (some 73)))] [] 33) [] (zx_wt zx_t4) 0 0 [(1, .inl 4), (2, .inl 64), (3, .inl 4), (0, .inr (.inl (some 73)))] [] = true := by decide +kernel
set_option maxRecDepth 100000 in
theorem zl_4 : zx_pz (zx_ent zx_xa 150 33 (zx_run zx_xa 100000) (28, 150, 33, 0, 0) [] (zx_wt zx_t4) 0 0 [(1, .inl 4), (2, .inl 64), (3, .inl 4), (0, .inr (.inl (some 73)))] [] 33) [] (zx_wt zx_t5) 0 0 [(1, .inl 5), (2, .inl 64), (3, .inl 4), (0, .inr (.inl (some 73)))] [] = true := by decide +kernel
set_option maxRecDepth 100000 in
theorem zl_5 : zx_pz (zx_ent zx_xa 150 33 (zx_run zx_xa 100000) (28, 150, 33, 0, 0) [] (zx_wt zx_t5) 0 0 [(1, .inl 5), (2, .inl 64), (3, .inl 4), (0, .inr (.inl (some 73)))] [] 33) [] (zx_wt zx_t6) 0 0 [(1, .inl 6), (2, .inl 64), (3, .inl 4), (0, .inr (.inl (some 73)))] [] = true := by decide +kernel
set_option maxRecDepth 100000 in
theorem zl_6 : zx_pz (zx_ent zx_xa 150 33 (zx_run zx_xa 100000) (28, 150, 33, 0, 0) [] (zx_wt zx_t6) 0 0 [(1, .inl 6), (2, .inl 64), (3, .inl 4), (0, .inr (.inl (some 73)))] [] 33) [] (zx_wt zx_t6) 0 0 [(1, .inl 7), (2, .inl 64), (3, .inl 4), (0, .inr (.inl (some 73)))] [] = true := by decide +kernel
set_option maxRecDepth 100000 in
theorem zl_7 : zx_pz (zx_ent zx_xa 150 33 (zx_run zx_xa 100000) (28, 150, 33, 0, 0) [] (zx_wt zx_t6) 0 0 [(1, .inl 7), (2, .inl 64), (3, .inl 4), (0, .inr (.inl (some 73)))] [] 33) [] (zx_wt zx_t6) 0 0 [(1, .inl 8), (2, .inl 64), (3, .inl 4), (0, .inr (.inl (some 73)))] [] = true := by decide +kernel
set_option maxRecDepth 100000 in
theorem zl_8 : zx_pz (zx_ent zx_xa 150 33 (zx_run zx_xa 100000) (28, 150, 33, 0, 0) [] (zx_wt zx_t6) 0 0 [(1, .inl 8), (2, .inl 64), (3, .inl 4), (0, .inr (.inl (some 73)))] [] 33) [] (zx_wt zx_t6) 0 0 [(1, .inl 9), (2, .inl 64), (3, .inl 4), (0, .inr (.inl (some 73)))] [] = true := by decide +kernel
set_option maxRecDepth 100000 in
theorem zl_9 : zx_pz (zx_ent zx_xa 150 33 (zx_run zx_xa 100000) (28, 150, 33, 0, 0) [] (zx_wt zx_t6) 0 0 [(1, .inl 9), (2, .inl 64), (3, .inl 4), (0, .inr (.inl (some 73)))] [] 33) [] (zx_wt zx_t6) 0 0 [(1, .inl 10), (2, .inl 64), (3, .inl 4), (0, .inr (.inl (some 73)))] [] = true := by decide +kernel
set_option maxRecDepth 100000 in
theorem zl_10 : zx_pz (zx_ent zx_xa 150 33 (zx_run zx_xa 100000) (28, 150, 33, 0, 0) [] (zx_wt zx_t6) 0 0 [(1, .inl 10), (2, .inl 64), (3, .inl 4), (0, .inr (.inl (some 73)))] [] 33) [] (zx_wt zx_t6) 0 0 [(1, .inl 11), (2, .inl 64), (3, .inl 4), (0, .inr (.inl (some 73)))] [] = true := by decide +kernel
set_option maxRecDepth 100000 in
theorem zl_11 : zx_pz (zx_ent zx_xa 150 33 (zx_run zx_xa 100000) (28, 150, 33, 0, 0) [] (zx_wt zx_t6) 0 0 [(1, .inl 11), (2, .inl 64), (3, .inl 4), (0, .inr (.inl (some 73)))] [] 33) [] (zx_wt zx_t6) 0 0 [(1, .inl 12), (2, .inl 64), (3, .inl 4), (0, .inr (.inl (some 73)))] [] = true := by decide +kernel
set_option maxRecDepth 100000 in
theorem zl_12 : zx_pz (zx_ent zx_xa 150 33 (zx_run zx_xa 100000) (28, 150, 33, 0, 0) [] (zx_wt zx_t6) 0 0 [(1, .inl 12), (2, .inl 64), (3, .inl 4), (0, .inr (.inl (some 73)))] [] 33) [] (zx_wt zx_t6) 0 0 [(1, .inl 13), (2, .inl 64), (3, .inl 4), (0, .inr (.inl (some 73)))] [] = true := by decide +kernel
set_option maxRecDepth 100000 in
theorem zl_13 : zx_pz (zx_ent zx_xa 150 33 (zx_run zx_xa 100000) (28, 150, 33, 0, 0) [] (zx_wt zx_t6) 0 0 [(1, .inl 13), (2, .inl 64), (3, .inl 4), (0, .inr (.inl (some 73)))] [] 33) [] (zx_wt zx_t6) 0 0 [(1, .inl 14), (2, .inl 64), (3, .inl 4), (0, .inr (.inl (some 73)))] [] = true := by decide +kernel
set_option maxRecDepth 100000 in
theorem zl_14 : zx_pz (zx_ent zx_xa 150 33 (zx_run zx_xa 100000) (28, 150, 33, 0, 0) [] (zx_wt zx_t6) 0 0 [(1, .inl 14), (2, .inl 64), (3, .inl 4), (0, .inr (.inl (some 73)))] [] 33) [] (zx_wt zx_t6) 0 0 [(1, .inl 15), (2, .inl 64), (3, .inl 4), (0, .inr (.inl (some 73)))] [] = true := by decide +kernel
set_option maxRecDepth 100000 in
theorem zl_15 : zx_pz (zx_ent zx_xa 150 33 (zx_run zx_xa 100000) (28, 150, 33, 0, 0) [] (zx_wt zx_t6) 0 0 [(1, .inl 15), (2, .inl 64), (3, .inl 4), (0, .inr (.inl (some 73)))] [] 33) [] (zx_wt zx_t6) 0 0 [(1, .inl 16), (2, .inl 64), (3, .inl 4), (0, .inr (.inl (some 73)))] [] = true := by decide +kernel
end
section
/-! layMoves, a round of its outer loop at a time -/
set_option maxRecDepth 100000 in
theorem zl_16 : zx_pz (zx_ent zx_xa 150 33 (zx_run zx_xa 100000) (28, 150, 33, 0, 0) [] (zx_wt zx_t6) 0 0 [(1, .inl 16), (2, .inl 64), (3, .inl 4), (0, .inr (.inl (some 73)))] [] 33) [] (zx_wt zx_t6) 0 0 [(1, .inl 17), (2, .inl 64), (3, .inl 4), (0, .inr (.inl (some 73)))] [] = true := by decide +kernel
set_option maxRecDepth 100000 in
theorem zl_17 : zx_pz (zx_ent zx_xa 150 33 (zx_run zx_xa 100000) (28, 150, 33, 0, 0) [] (zx_wt zx_t6) 0 0 [(1, .inl 17), (2, .inl 64), (3, .inl 4), (0, .inr (.inl (some 73)))] [] 33) [] (zx_wt zx_t6) 0 0 [(1, .inl 18), (2, .inl 64), (3, .inl 4), (0, .inr (.inl (some 73)))] [] = true := by decide +kernel
set_option maxRecDepth 100000 in
theorem zl_18 : zx_pz (zx_ent zx_xa 150 33 (zx_run zx_xa 100000) (28, 150, 33, 0, 0) [] (zx_wt zx_t6) 0 0 [(1, .inl 18), (2, .inl 64), (3, .inl 4), (0, .inr (.inl (some 73)))] [] 33) [] (zx_wt zx_t6) 0 0 [(1, .inl 19), (2, .inl 64), (3, .inl 4), (0, .inr (.inl (some 73)))] [] = true := by decide +kernel
set_option maxRecDepth 100000 in
theorem zl_19 : zx_pz (zx_ent zx_xa 150 33 (zx_run zx_xa 100000) (28, 150, 33, 0, 0) [] (zx_wt zx_t6) 0 0 [(1, .inl 19), (2, .inl 64), (3, .inl 4), (0, .inr (.inl (some 73)))] [] 33) [] (zx_wt zx_t6) 0 0 [(1, .inl 20), (2, .inl 64), (3, .inl 4), (0, .inr (.inl (some 73)))] [] = true := by decide +kernel
set_option maxRecDepth 100000 in
theorem zl_20 : zx_pz (zx_ent zx_xa 150 33 (zx_run zx_xa 100000) (28, 150, 33, 0, 0) [] (zx_wt zx_t6) 0 0 [(1, .inl 20), (2, .inl 64), (3, .inl 4), (0, .inr (.inl (some 73)))] [] 33) [] (zx_wt zx_t6) 0 0 [(1, .inl 21), (2, .inl 64), (3, .inl 4), (0, .inr (.inl (some 73)))] [] = true := by decide +kernel
set_option maxRecDepth 100000 in
theorem zl_21 : zx_pz (zx_ent zx_xa 150 33 (zx_run zx_xa 100000) (28, 150, 33, 0, 0) [] (zx_wt zx_t6) 0 0 [(1, .inl 21), (2, .inl 64), (3, .inl 4), (0, .inr (.inl (some 73)))] [] 33) [] (zx_wt zx_t6) 0 0 [(1, .inl 22), (2, .inl 64), (3, .inl 4), (0, .inr (.inl (some 73)))] [] = true := by decide +kernel
set_option maxRecDepth 100000 in
theorem zl_22 : zx_pz (zx_ent zx_xa 150 33 (zx_run zx_xa 100000) (28, 150, 33, 0, 0) [] (zx_wt zx_t6) 0 0 [(1, .inl 22), (2, .inl 64), (3, .inl 4), (0, .inr (.inl (some 73)))] [] 33) [] (zx_wt zx_t6) 0 0 [(1, .inl 23), (2, .inl 64), (3, .inl 4), (0, .inr (.inl (some 73)))] [] = true := by decide +kernel
set_option maxRecDepth 100000 in
theorem zl_23 : zx_pz (zx_ent zx_xa 150 33 (zx_run zx_xa 100000) (28, 150, 33, 0, 0) [] (zx_wt zx_t6) 0 0 [(1, .inl 23), (2, .inl 64), (3, .inl 4), (0, .inr (.inl (some 73)))] [] 33) [] (zx_wt zx_t6) 0 0 [(1, .inl 24), (2, .inl 64), (3, .inl 4), (0, .inr (.inl (some 73)))] [] = true := by decide +kernel
set_option maxRecDepth 100000 in
theorem zl_24 : zx_pz (zx_ent zx_xa 150 33 (zx_run zx_xa 100000) (28, 150, 33, 0, 0) [] (zx_wt zx_t6) 0 0 [(1, .inl 24), (2, .inl 64), (3, .inl 4), (0, .inr (.inl (some 73)))] [] 33) [] (zx_wt zx_t6) 0 0 [(1, .inl 25), (2, .inl 64), (3, .inl 4), (0, .inr (.inl (some 73)))] [] = true := by decide +kernel
set_option maxRecDepth 100000 in
theorem zl_25 : zx_pz (zx_ent zx_xa 150 33 (zx_run zx_xa 100000) (28, 150, 33, 0, 0) [] (zx_wt zx_t6) 0 0 [(1, .inl 25), (2, .inl 64), (3, .inl 4), (0, .inr (.inl (some 73)))] [] 33) [] (zx_wt zx_t6) 0 0 [(1, .inl 26), (2, .inl 64), (3, .inl 4), (0, .inr (.inl (some 73)))] [] = true := by decide +kernel
set_option maxRecDepth 100000 in
theorem zl_26 : zx_pz (zx_ent zx_xa 150 33 (zx_run zx_xa 100000) (28, 150, 33, 0, 0) [] (zx_wt zx_t6) 0 0 [(1, .inl 26), (2, .inl 64), (3, .inl 4), (0, .inr (.inl (some 73)))] [] 33) [] (zx_wt zx_t6) 0 0 [(1, .inl 27), (2, .inl 64), (3, .inl 4), (0, .inr (.inl (some 73)))] [] = true := by decide +kernel
set_option maxRecDepth 100000 in
theorem zl_27 : zx_pz (zx_ent zx_xa 150 33 (zx_run zx_xa 100000) (28, 150, 33, 0, 0) [] (zx_wt zx_t6) 0 0 [(1, .inl 27), (2, .inl 64), (3, .inl 4), (0, .inr (.inl (some 73)))] [] 33) [] (zx_wt zx_t6) 0 0 [(1, .inl 28), (2, .inl 64), (3, .inl 4), (0, .inr (.inl (some 73)))] [] = true := by decide +kernel
set_option maxRecDepth 100000 in
theorem zl_28 : zx_pz (zx_ent zx_xa 150 33 (zx_run zx_xa 100000) (28, 150, 33, 0, 0) [] (zx_wt zx_t6) 0 0 [(1, .inl 28), (2, .inl 64), (3, .inl 4), (0, .inr (.inl (some 73)))] [] 33) [] (zx_wt zx_t6) 0 0 [(1, .inl 29), (2, .inl 64), (3, .inl 4), (0, .inr (.inl (some 73)))] [] = true := by decide +kernel
set_option maxRecDepth 100000 in
theorem zl_29 : zx_pz (zx_ent zx_xa 150 33 (zx_run zx_xa 100000) (28, 150, 33, 0, 0) [] (zx_wt zx_t6) 0 0 [(1, .inl 29), (2, .inl 64), (3, .inl 4), (0, .inr (.inl (some 73)))] [] 33) [] (zx_wt zx_t6) 0 0 [(1, .inl 30), (2, .inl 64), (3, .inl 4), (0, .inr (.inl (some 73)))] [] = true := by decide +kernel
set_option maxRecDepth 100000 in
theorem zl_30 : zx_pz (zx_ent zx_xa 150 33 (zx_run zx_xa 100000) (28, 150, 33, 0, 0) [] (zx_wt zx_t6) 0 0 [(1, .inl 30), (2, .inl 64), (3, .inl 4), (0, .inr (.inl (some 73)))] [] 33) [] (zx_wt zx_t6) 0 0 [(1, .inl 31), (2, .inl 64), (3, .inl 4), (0, .inr (.inl (some 73)))] [] = true := by decide +kernel
set_option maxRecDepth 100000 in
theorem zl_31 : zx_pz (zx_ent zx_xa 150 33 (zx_run zx_xa 100000) (28, 150, 33, 0, 0) [] (zx_wt zx_t6) 0 0 [(1, .inl 31), (2, .inl 64), (3, .inl 4), (0, .inr (.inl (some 73)))] [] 33) [] (zx_wt zx_t6) 0 0 [(1, .inl 32), (2, .inl 64), (3, .inl 4), (0, .inr (.inl (some 73)))] [] = true := by decide +kernel
end
section
/-! layMoves, a round of its outer loop at a time -/
set_option maxRecDepth 100000 in
theorem zl_32 : zx_pz (zx_ent zx_xa 150 33 (zx_run zx_xa 100000) (28, 150, 33, 0, 0) [] (zx_wt zx_t6) 0 0 [(1, .inl 32), (2, .inl 64), (3, .inl 4), (0, .inr (.inl (some 73)))] [] 33) [] (zx_wt zx_t6) 0 0 [(1, .inl 33), (2, .inl 64), (3, .inl 4), (0, .inr (.inl (some 73)))] [] = true := by decide +kernel
set_option maxRecDepth 100000 in
theorem zl_33 : zx_pz (zx_ent zx_xa 150 33 (zx_run zx_xa 100000) (28, 150, 33, 0, 0) [] (zx_wt zx_t6) 0 0 [(1, .inl 33), (2, .inl 64), (3, .inl 4), (0, .inr (.inl (some 73)))] [] 33) [] (zx_wt zx_t6) 0 0 [(1, .inl 34), (2, .inl 64), (3, .inl 4), (0, .inr (.inl (some 73)))] [] = true := by decide +kernel
set_option maxRecDepth 100000 in
theorem zl_34 : zx_pz (zx_ent zx_xa 150 33 (zx_run zx_xa 100000) (28, 150, 33, 0, 0) [] (zx_wt zx_t6) 0 0 [(1, .inl 34), (2, .inl 64), (3, .inl 4), (0, .inr (.inl (some 73)))] [] 33) [] (zx_wt zx_t6) 0 0 [(1, .inl 35), (2, .inl 64), (3, .inl 4), (0, .inr (.inl (some 73)))] [] = true := by decide +kernel
set_option maxRecDepth 100000 in
theorem zl_35 : zx_pz (zx_ent zx_xa 150 33 (zx_run zx_xa 100000) (28, 150, 33, 0, 0) [] (zx_wt zx_t6) 0 0 [(1, .inl 35), (2, .inl 64), (3, .inl 4), (0, .inr (.inl (some 73)))] [] 33) [] (zx_wt zx_t6) 0 0 [(1, .inl 36), (2, .inl 64), (3, .inl 4), (0, .inr (.inl (some 73)))] [] = true := by decide +kernel
set_option maxRecDepth 100000 in
theorem zl_36 : zx_pz (zx_ent zx_xa 150 33 (zx_run zx_xa 100000) (28, 150, 33, 0, 0) [] (zx_wt zx_t6) 0 0 [(1, .inl 36), (2, .inl 64), (3, .inl 4), (0, .inr (.inl (some 73)))] [] 33) [] (zx_wt zx_t6) 0 0 [(1, .inl 37), (2, .inl 64), (3, .inl 4), (0, .inr (.inl (some 73)))] [] = true := by decide +kernel
set_option maxRecDepth 100000 in
theorem zl_37 : zx_pz (zx_ent zx_xa 150 33 (zx_run zx_xa 100000) (28, 150, 33, 0, 0) [] (zx_wt zx_t6) 0 0 [(1, .inl 37), (2, .inl 64), (3, .inl 4), (0, .inr (.inl (some 73)))] [] 33) [] (zx_wt zx_t6) 0 0 [(1, .inl 38), (2, .inl 64), (3, .inl 4), (0, .inr (.inl (some 73)))] [] = true := by decide +kernel
set_option maxRecDepth 100000 in
theorem zl_38 : zx_pz (zx_ent zx_xa 150 33 (zx_run zx_xa 100000) (28, 150, 33, 0, 0) [] (zx_wt zx_t6) 0 0 [(1, .inl 38), (2, .inl 64), (3, .inl 4), (0, .inr (.inl (some 73)))] [] 33) [] (zx_wt zx_t6) 0 0 [(1, .inl 39), (2, .inl 64), (3, .inl 4), (0, .inr (.inl (some 73)))] [] = true := by decide +kernel
set_option maxRecDepth 100000 in
theorem zl_39 : zx_pz (zx_ent zx_xa 150 33 (zx_run zx_xa 100000) (28, 150, 33, 0, 0) [] (zx_wt zx_t6) 0 0 [(1, .inl 39), (2, .inl 64), (3, .inl 4), (0, .inr (.inl (some 73)))] [] 33) [] (zx_wt zx_t6) 0 0 [(1, .inl 40), (2, .inl 64), (3, .inl 4), (0, .inr (.inl (some 73)))] [] = true := by decide +kernel
set_option maxRecDepth 100000 in
theorem zl_40 : zx_pz (zx_ent zx_xa 150 33 (zx_run zx_xa 100000) (28, 150, 33, 0, 0) [] (zx_wt zx_t6) 0 0 [(1, .inl 40), (2, .inl 64), (3, .inl 4), (0, .inr (.inl (some 73)))] [] 33) [] (zx_wt zx_t6) 0 0 [(1, .inl 41), (2, .inl 64), (3, .inl 4), (0, .inr (.inl (some 73)))] [] = true := by decide +kernel
set_option maxRecDepth 100000 in
theorem zl_41 : zx_pz (zx_ent zx_xa 150 33 (zx_run zx_xa 100000) (28, 150, 33, 0, 0) [] (zx_wt zx_t6) 0 0 [(1, .inl 41), (2, .inl 64), (3, .inl 4), (0, .inr (.inl (some 73)))] [] 33) [] (zx_wt zx_t6) 0 0 [(1, .inl 42), (2, .inl 64), (3, .inl 4), (0, .inr (.inl (some 73)))] [] = true := by decide +kernel
set_option maxRecDepth 100000 in
theorem zl_42 : zx_pz (zx_ent zx_xa 150 33 (zx_run zx_xa 100000) (28, 150, 33, 0, 0) [] (zx_wt zx_t6) 0 0 [(1, .inl 42), (2, .inl 64), (3, .inl 4), (0, .inr (.inl (some 73)))] [] 33) [] (zx_wt zx_t6) 0 0 [(1, .inl 43), (2, .inl 64), (3, .inl 4), (0, .inr (.inl (some 73)))] [] = true := by decide +kernel
set_option maxRecDepth 100000 in
theorem zl_43 : zx_pz (zx_ent zx_xa 150 33 (zx_run zx_xa 100000) (28, 150, 33, 0, 0) [] (zx_wt zx_t6) 0 0 [(1, .inl 43), (2, .inl 64), (3, .inl 4), (0, .inr (.inl (some 73)))] [] 33) [] (zx_wt zx_t6) 0 0 [(1, .inl 44), (2, .inl 64), (3, .inl 4), (0, .inr (.inl (some 73)))] [] = true := by decide +kernel
set_option maxRecDepth 100000 in
theorem zl_44 : zx_pz (zx_ent zx_xa 150 33 (zx_run zx_xa 100000) (28, 150, 33, 0, 0) [] (zx_wt zx_t6) 0 0 [(1, .inl 44), (2, .inl 64), (3, .inl 4), (0, .inr (.inl (some 73)))] [] 33) [] (zx_wt zx_t6) 0 0 [(1, .inl 45), (2, .inl 64), (3, .inl 4), (0, .inr (.inl (some 73)))] [] = true := by decide +kernel
set_option maxRecDepth 100000 in
theorem zl_45 : zx_pz (zx_ent zx_xa 150 33 (zx_run zx_xa 100000) (28, 150, 33, 0, 0) [] (zx_wt zx_t6) 0 0 [(1, .inl 45), (2, .inl 64), (3, .inl 4), (0, .inr (.inl (some 73)))] [] 33) [] (zx_wt zx_t6) 0 0 [(1, .inl 46), (2, .inl 64), (3, .inl 4), (0, .inr (.inl (some 73)))] [] = true := by decide +kernel
set_option maxRecDepth 100000 in
theorem zl_46 : zx_pz (zx_ent zx_xa 150 33 (zx_run zx_xa 100000) (28, 150, 33, 0, 0) [] (zx_wt zx_t6) 0 0 [(1, .inl 46), (2, .inl 64), (3, .inl 4), (0, .inr (.inl (some 73)))] [] 33) [] (zx_wt zx_t6) 0 0 [(1, .inl 47), (2, .inl 64), (3, .inl 4), (0, .inr (.inl (some 73)))] [] = true := by decide +kernel
set_option maxRecDepth 100000 in
theorem zl_47 : zx_pz (zx_ent zx_xa 150 33 (zx_run zx_xa 100000) (28, 150, 33, 0, 0) [] (zx_wt zx_t6) 0 0 [(1, .inl 47), (2, .inl 64), (3, .inl 4), (0, .inr (.inl (some 73)))] [] 33) [] (zx_wt zx_t6) 0 0 [(1, .inl 48), (2, .inl 64), (3, .inl 4), (0, .inr (.inl (some 73)))] [] = true := by decide +kernel
end
section
/-! layMoves, a round of its outer loop at a time -/
set_option maxRecDepth 100000 in
theorem zl_48 : zx_pz (zx_ent zx_xa 150 33 (zx_run zx_xa 100000) (28, 150, 33, 0, 0) [] (zx_wt zx_t6) 0 0 [(1, .inl 48), (2, .inl 64), (3, .inl 4), (0, .inr (.inl (some 73)))] [] 33) [] (zx_wt zx_t6) 0 0 [(1, .inl 49), (2, .inl 64), (3, .inl 4), (0, .inr (.inl (some 73)))] [] = true := by decide +kernel
set_option maxRecDepth 100000 in
theorem zl_49 : zx_pz (zx_ent zx_xa 150 33 (zx_run zx_xa 100000) (28, 150, 33, 0, 0) [] (zx_wt zx_t6) 0 0 [(1, .inl 49), (2, .inl 64), (3, .inl 4), (0, .inr (.inl (some 73)))] [] 33) [] (zx_wt zx_t6) 0 0 [(1, .inl 50), (2, .inl 64), (3, .inl 4), (0, .inr (.inl (some 73)))] [] = true := by decide +kernel
set_option maxRecDepth 100000 in
theorem zl_50 : zx_pz (zx_ent zx_xa 150 33 (zx_run zx_xa 100000) (28, 150, 33, 0, 0) [] (zx_wt zx_t6) 0 0 [(1, .inl 50), (2, .inl 64), (3, .inl 4), (0, .inr (.inl (some 73)))] [] 33) [] (zx_wt zx_t6) 0 0 [(1, .inl 51), (2, .inl 64), (3, .inl 4), (0, .inr (.inl (some 73)))] [] = true := by decide +kernel
set_option maxRecDepth 100000 in
theorem zl_51 : zx_pz (zx_ent zx_xa 150 33 (zx_run zx_xa 100000) (28, 150, 33, 0, 0) [] (zx_wt zx_t6) 0 0 [(1, .inl 51), (2, .inl 64), (3, .inl 4), (0, .inr (.inl (some 73)))] [] 33) [] (zx_wt zx_t6) 0 0 [(1, .inl 52), (2, .inl 64), (3, .inl 4), (0, .inr (.inl (some 73)))] [] = true := by decide +kernel
set_option maxRecDepth 100000 in
theorem zl_52 : zx_pz (zx_ent zx_xa 150 33 (zx_run zx_xa 100000) (28, 150, 33, 0, 0) [] (zx_wt zx_t6) 0 0 [(1, .inl 52), (2, .inl 64), (3, .inl 4), (0, .inr (.inl (some 73)))] [] 33) [] (zx_wt zx_t6) 0 0 [(1, .inl 53), (2, .inl 64), (3, .inl 4), (0, .inr (.inl (some 73)))] [] = true := by decide +kernel
set_option maxRecDepth 100000 in
theorem zl_53 : zx_pz (zx_ent zx_xa 150 33 (zx_run zx_xa 100000) (28, 150, 33, 0, 0) [] (zx_wt zx_t6) 0 0 [(1, .inl 53), (2, .inl 64), (3, .inl 4), (0, .inr (.inl (some 73)))] [] 33) [] (zx_wt zx_t6) 0 0 [(1, .inl 54), (2, .inl 64), (3, .inl 4), (0, .inr (.inl (some 73)))] [] = true := by decide +kernel
set_option maxRecDepth 100000 in
theorem zl_54 : zx_pz (zx_ent zx_xa 150 33 (zx_run zx_xa 100000) (28, 150, 33, 0, 0) [] (zx_wt zx_t6) 0 0 [(1, .inl 54), (2, .inl 64), (3, .inl 4), (0, .inr (.inl (some 73)))] [] 33) [] (zx_wt zx_t6) 0 0 [(1, .inl 55), (2, .inl 64), (3, .inl 4), (0, .inr (.inl (some 73)))] [] = true := by decide +kernel
set_option maxRecDepth 100000 in
theorem zl_55 : zx_pz (zx_ent zx_xa 150 33 (zx_run zx_xa 100000) (28, 150, 33, 0, 0) [] (zx_wt zx_t6) 0 0 [(1, .inl 55), (2, .inl 64), (3, .inl 4), (0, .inr (.inl (some 73)))] [] 33) [] (zx_wt zx_t6) 0 0 [(1, .inl 56), (2, .inl 64), (3, .inl 4), (0, .inr (.inl (some 73)))] [] = true := by decide +kernel
set_option maxRecDepth 100000 in
theorem zl_56 : zx_pz (zx_ent zx_xa 150 33 (zx_run zx_xa 100000) (28, 150, 33, 0, 0) [] (zx_wt zx_t6) 0 0 [(1, .inl 56), (2, .inl 64), (3, .inl 4), (0, .inr (.inl (some 73)))] [] 33) [] (zx_wt zx_t6) 0 0 [(1, .inl 57), (2, .inl 64), (3, .inl 4), (0, .inr (.inl (some 73)))] [] = true := by decide +kernel
set_option maxRecDepth 100000 in
theorem zl_57 : zx_pz (zx_ent zx_xa 150 33 (zx_run zx_xa 100000) (28, 150, 33, 0, 0) [] (zx_wt zx_t6) 0 0 [(1, .inl 57), (2, .inl 64), (3, .inl 4), (0, .inr (.inl (some 73)))] [] 33) [] (zx_wt zx_t6) 0 0 [(1, .inl 58), (2, .inl 64), (3, .inl 4), (0, .inr (.inl (some 73)))] [] = true := by decide +kernel
set_option maxRecDepth 100000 in
theorem zl_58 : zx_pz (zx_ent zx_xa 150 33 (zx_run zx_xa 100000) (28, 150, 33, 0, 0) [] (zx_wt zx_t6) 0 0 [(1, .inl 58), (2, .inl 64), (3, .inl 4), (0, .inr (.inl (some 73)))] [] 33) [] (zx_wt zx_t6) 0 0 [(1, .inl 59), (2, .inl 64), (3, .inl 4), (0, .inr (.inl (some 73)))] [] = true := by decide +kernel
set_option maxRecDepth 100000 in
theorem zl_59 : zx_pz (zx_ent zx_xa 150 33 (zx_run zx_xa 100000) (28, 150, 33, 0, 0) [] (zx_wt zx_t6) 0 0 [(1, .inl 59), (2, .inl 64), (3, .inl 4), (0, .inr (.inl (some 73)))] [] 33) [] (zx_wt zx_t6) 0 0 [(1, .inl 60), (2, .inl 64), (3, .inl 4), (0, .inr (.inl (some 73)))] [] = true := by decide +kernel
set_option maxRecDepth 100000 in
theorem zl_60 : zx_pz (zx_ent zx_xa 150 33 (zx_run zx_xa 100000) (28, 150, 33, 0, 0) [] (zx_wt zx_t6) 0 0 [(1, .inl 60), (2, .inl 64), (3, .inl 4), (0, .inr (.inl (some 73)))] [] 33) [] (zx_wt zx_t6) 0 0 [(1, .inl 61), (2, .inl 64), (3, .inl 4), (0, .inr (.inl (some 73)))] [] = true := by decide +kernel
set_option maxRecDepth 100000 in
theorem zl_61 : zx_pz (zx_ent zx_xa 150 33 (zx_run zx_xa 100000) (28, 150, 33, 0, 0) [] (zx_wt zx_t6) 0 0 [(1, .inl 61), (2, .inl 64), (3, .inl 4), (0, .inr (.inl (some 73)))] [] 33) [] (zx_wt zx_t6) 0 0 [(1, .inl 62), (2, .inl 64), (3, .inl 4), (0, .inr (.inl (some 73)))] [] = true := by decide +kernel
set_option maxRecDepth 100000 in
theorem zl_62 : zx_pz (zx_ent zx_xa 150 33 (zx_run zx_xa 100000) (28, 150, 33, 0, 0) [] (zx_wt zx_t6) 0 0 [(1, .inl 62), (2, .inl 64), (3, .inl 4), (0, .inr (.inl (some 73)))] [] 33) [] (zx_wt zx_t6) 0 0 [(1, .inl 63), (2, .inl 64), (3, .inl 4), (0, .inr (.inl (some 73)))] [] = true := by decide +kernel
set_option maxRecDepth 100000 in
theorem zl_63 : zx_pz (zx_ent zx_xa 150 33 (zx_run zx_xa 100000) (28, 150, 33, 0, 0) [] (zx_wt zx_t6) 0 0 [(1, .inl 63), (2, .inl 64), (3, .inl 4), (0, .inr (.inl (some 73)))] [] 33) [] (zx_wt zx_t6) 0 0 [(1, .inl 64), (2, .inl 64), (3, .inl 4), (0, .inr (.inl (some 73)))] [] = true := by decide +kernel
end
section
/-! THE LAW -/
theorem zd_18 : decode code 18 = .ok (.iload_n 3, 1) := by decide +kernel
theorem zd_19 : decode code 19 = .ok (.aload_n 0, 1) := by decide +kernel
theorem zd_20 : decode code 20 = .ok (.arraylength, 1) := by decide +kernel
theorem zd_21 : decode code 21 = .ok (.bipush 6, 2) := by decide +kernel
theorem zd_23 : decode code 23 = .ok (.isub, 1) := by decide +kernel
theorem zd_24 : decode code 24 = .ok (.if_icmp .gt 1439, 3) := by decide +kernel
theorem zd_33 : decode code 33 = .ok (.tableswitch 1424 0 48 #[211, 274, 297, 310, 333, 366, 399, 432, 445, 478, 501, 534, 567, 600, 613, 626, 659, 682, 705, 718, 741, 764, 787, 800, 823, 856, 889, 922, 955, 968, 981, 994, 1007, 1020, 1033, 1046, 1059, 1082, 1105, 1138, 1161, 1220, 1243, 1266, 1289, 1322, 1355, 1378, 1401], 211) := by decide +kernel
theorem zd_1463 : decode code 1463 = .ok (.iconst 1, 1) := by decide +kernel
theorem zd_1464 : decode code 1464 = .ok (.ireturn, 1) := by decide +kernel
set_option maxRecDepth 100000 in
theorem zv_head : zx_pz (zx_run zx_xa 1000 (30, 0, 33, 200, 20000) zx_g0 zx_w0 109 19183 zx_l0 [] 18) zx_g0 zx_w0 109 19183 zx_l0 [zx_top] = true := by decide +kernel
theorem zq_c (p : Program) (s : State) (m : MethodId) (meth : Method) (c : Code) (b bp : Nat) (xa : List (Nat × Nat × List zx_V)) (ρ : Nat → Int32) (ex : Nat → Value) (hx : p.tables.exec = Jvm.exec) (hb : c.code = code) (hml : c.maxLocals = 4) (hown : s.vm.findClass R_law = some m.cls) (htb : ∀ w ∈ zx_tb, w.before #[Value.ref b] s = true) (hX : zy_X xa ρ ex (fun q => s.heap.size ≤ q) s s.heap) : zy_C xa ρ ex p room_1 s m #[Value.ref b] meth c (fun q => s.heap.size ≤ q) (30, 0, bp, 200, 20000) :=
  ⟨hx, hb, hml, hown, htb, fun _ h => h, hX, Nat.le_of_ble_eq_true rfl, Nat.le_of_ble_eq_true rfl, Nat.le_of_ble_eq_true rfl, Nat.le_of_ble_eq_true rfl, fun z => absurd (show (zx_name 0).name = "<init>" from z) (by decide +kernel)⟩
/-- from a place of the law, with the fresh objects, it comes to its end with true -/
def zq_G (pc : Nat) : Prop := ∀ {p : Program} {l : Launch} {e : Env} {s : State} {m : MethodId} {below : List Frame} {meth : Method} {c : Code} {b : Nat} {ρ : Nat → Int32} {ex : Nat → Value} {D : va_G} {as : List Nat} {tys : List (ClassId × FieldType)} {ws : va_W} {H : Heap} {locs : List Loc} {ls : Array Slot},
  zy_C zx_xa ρ ex p room_1 s m #[Value.ref b] meth c (fun q => s.heap.size ≤ q) (30, 0, 1000000, 200, 20000) → meth.sig.returnType = ret → meth.locks = false → zy_D ρ ex D s (fun q => s.heap.size ≤ q) (30, 0, 1000000, 200, 20000) zx_g0 zx_w0 109 19183 as tys ws H locs → zy_l ρ ex as ls 4 zx_l0 → W p l e room_1 s m #[Value.ref b] below meth c H locs 109 19183 (lw_Z below #[Value.ref b] s) (F0 m pc ls [])
theorem zq_end {xa : List (Nat × Nat × List zx_V)} {p : Program} {l : Launch} {e : Env} {s : State} {m : MethodId} {below : List Frame} {meth : Method} {c : Code} {b : Nat} {ρ : Nat → Int32} {ex : Nat → Value} {D : va_G} {as : List Nat} {tys : List (ClassId × FieldType)} {ws : va_W} {H : Heap} {locs : List Loc} {ls : Array Slot} {sv : List Value} {g : zx_G} {w : zx_Wd} {cs sl n pc : Nat} {lo : zx_L} {st : List zx_V}
    (hf : zx_fin (zx_run xa n (30, 0, 1000000, 200, 20000) g w cs sl lo st pc) = true) (C : zy_C xa ρ ex p room_1 s m #[Value.ref b] meth c (fun q => s.heap.size ≤ q) (30, 0, 1000000, 200, 20000)) (hr : meth.sig.returnType = ret) (hlocks : meth.locks = false) (Dy : zy_D ρ ex D s (fun q => s.heap.size ≤ q) (30, 0, 1000000, 200, 20000) g w cs sl as tys ws H locs) (hl : zy_l ρ ex as ls 4 lo) (hs : zy_s ρ ex as st sv) : W p l e room_1 s m #[Value.ref b] below meth c H locs cs sl (lw_Z below #[Value.ref b] s) (F0 m pc ls sv) := by
  obtain ⟨outs, h1, h2⟩ := zx_fin_ok hf
  refine zs_run zk_tt zk_aa n _ _ _ _ _ _ _ _ _ h1 C Dy hl hs ?_
  intro o ho as' tys' ws' H' locs' hp
  have ho := h2 o ho
  refine ⟨fun rv hrv cs' sl' pc' ls' st' Dy' hrt => ?_, fun cs' sl' lo' st' hrv => ?_⟩
  · rw [ho] at hrv
    cases hrv
    obtain ⟨v, rfl, hv, hd⟩ := hrt
    have hv : v = .int 1 := hv
    subst hv
    have hd : decode code pc' = .ok (.ireturn, 1) := by
      rcases hd with ⟨hd, -⟩ | ⟨-, hd, -⟩
      · exact hd
      · exact absurd hd (by decide +kernel)
    have hlocs : ∀ q ∈ locs', s.heap.size ≤ q.base := Dy'.2.2.2.1.2.2
    refine va_forget hlocs ?_
    refine W.widen (k := 600000) (n := 7302250) (Nat.le_trans Dy'.2.2.2.2.2.2.1 (Nat.le_of_ble_eq_true rfl)) (Nat.le_trans Dy'.2.2.2.2.2.2.2 (Nat.le_of_ble_eq_true rfl)) ?_
    exact lw_ret C.1 C.2.1 hr hlocks hd
  · rw [ho] at hrv
    cases hrv
theorem zq_one {pc : Nat} (lo hi : Int) (h : zx_vs pc lo hi = true) {p : Program} {l : Launch} {e : Env} {s : State} {m : MethodId} {below : List Frame} {meth : Method} {c : Code} {b : Nat} {ρ : Nat → Int32} {ex : Nat → Value} {D : va_G} {as : List Nat} {tys : List (ClassId × FieldType)} {ws : va_W} {H : Heap} {locs : List Loc} {ls : Array Slot}
    (C : zy_C zx_xa ρ ex p room_1 s m #[Value.ref b] meth c (fun q => s.heap.size ≤ q) (30, 0, 1000000, 200, 20000)) (hr : meth.sig.returnType = ret) (hlocks : meth.locks = false) (Dy : zy_D ρ ex D s (fun q => s.heap.size ≤ q) (30, 0, 1000000, 200, 20000) zx_g0 zx_w0 109 19183 as tys ws H locs) (hl : zy_l ρ ex as ls 4 zx_l0) (h1 : lo ≤ (ρ 1).toInt) (h2 : (ρ 1).toInt ≤ hi) : W p l e room_1 s m #[Value.ref b] below meth c H locs 109 19183 (lw_Z below #[Value.ref b] s) (F0 m pc ls []) := by
  have hg : zy_g ρ (zx_gr lo hi) := by
    intro i q hq
    have hf : ∀ j, zx_full.1 ≤ (ρ j).toInt ∧ (ρ j).toInt ≤ zx_full.2 := fun j => ⟨Int32.le_toInt _, by have := Int32.toInt_lt (ρ j); show _ ≤ (2147483647 : Int); omega⟩
    match i, hq with
    | 0, hq => cases hq; exact hf 0
    | 1, hq => cases hq; exact ⟨h1, h2⟩
    | 2, hq => cases hq; exact hf 2
    | 3, hq => cases hq; exact hf 3
    | 4, hq => cases hq; exact hf 4
    | 5, hq => cases hq; exact hf 5
  exact zq_end h C hr hlocks (Dy.g hg) hl trivial
theorem zq_all {pc : Nat} (h : zx_vs pc (-2147483648) 2147483647 = true) : zq_G pc := by
  intro p l e s m below meth c b ρ ex D as tys ws H locs ls C hr hlocks Dy hl
  exact zq_one _ _ h C hr hlocks Dy hl (Int32.le_toInt _) (by have := Int32.toInt_lt (ρ 1); omega)
theorem zq_pts {pc : Nat} (n : Nat) (h1 : zx_vs pc (-2147483648) (-1) = true) (h2 : zx_vs pc n 2147483647 = true) (h3 : ∀ i : Nat, i < n → zx_vs pc i i = true) : zq_G pc := by
  intro p l e s m below meth c b ρ ex D as tys ws H locs ls C hr hlocks Dy hl
  have b1 := Int32.le_toInt (ρ 1)
  have b2 := Int32.toInt_lt (ρ 1)
  rcases Int.lt_or_le (ρ 1).toInt 0 with z | z
  · exact zq_one _ _ h1 C hr hlocks Dy hl b1 (by omega)
  · rcases Int.lt_or_le (ρ 1).toInt n with y | y
    · obtain ⟨i, hi⟩ := Int.eq_ofNat_of_zero_le z
      rw [hi] at y
      exact zq_one _ _ (h3 i (by omega)) C hr hlocks Dy hl (by omega) (by omega)
    · exact zq_one _ _ h2 C hr hlocks Dy hl y (by omega)
theorem zq_0 : zq_G 244 := zq_all zv_0_a
theorem zq_1 : zq_G 307 := zq_all zv_1_a
theorem zq_2 : zq_G 330 := zq_all zv_2_a
theorem zq_3 : zq_G 343 := zq_pts 2 zv_3_m zv_3_p (fun i hi => match i, hi with
  | 0, _ => zv_3_0
  | 1, _ => zv_3_1
  | i + 2, hi => absurd hi (by omega))
theorem zq_4 : zq_G 366 := zq_all zv_4_a
theorem zq_5 : zq_G 399 := zq_all zv_5_a
theorem zq_6 : zq_G 432 := zq_all zv_6_a
theorem zq_7 : zq_G 465 := zq_all zv_7_a
theorem zq_8 : zq_G 478 := zq_all zv_8_a
theorem zq_9 : zq_G 511 := zq_all zv_9_a
theorem zq_10 : zq_G 534 := zq_all zv_10_a
theorem zq_11 : zq_G 567 := zq_all zv_11_a
theorem zq_12 : zq_G 600 := zq_all zv_12_a
theorem zq_13 : zq_G 633 := zq_all zv_13_a
theorem zq_14 : zq_G 646 := zq_all zv_14_a
theorem zq_15 : zq_G 659 := zq_all zv_15_a
theorem zq_16 : zq_G 692 := zq_pts 61 zv_16_m zv_16_p (fun i hi => match i, hi with
  | 0, _ => zv_16_0
  | 1, _ => zv_16_1
  | 2, _ => zv_16_2
  | 3, _ => zv_16_3
  | 4, _ => zv_16_4
  | 5, _ => zv_16_5
  | 6, _ => zv_16_6
  | 7, _ => zv_16_7
  | 8, _ => zv_16_8
  | 9, _ => zv_16_9
  | 10, _ => zv_16_10
  | 11, _ => zv_16_11
  | 12, _ => zv_16_12
  | 13, _ => zv_16_13
  | 14, _ => zv_16_14
  | 15, _ => zv_16_15
  | 16, _ => zv_16_16
  | 17, _ => zv_16_17
  | 18, _ => zv_16_18
  | 19, _ => zv_16_19
  | 20, _ => zv_16_20
  | 21, _ => zv_16_21
  | 22, _ => zv_16_22
  | 23, _ => zv_16_23
  | 24, _ => zv_16_24
  | 25, _ => zv_16_25
  | 26, _ => zv_16_26
  | 27, _ => zv_16_27
  | 28, _ => zv_16_28
  | 29, _ => zv_16_29
  | 30, _ => zv_16_30
  | 31, _ => zv_16_31
  | 32, _ => zv_16_32
  | 33, _ => zv_16_33
  | 34, _ => zv_16_34
  | 35, _ => zv_16_35
  | 36, _ => zv_16_36
  | 37, _ => zv_16_37
  | 38, _ => zv_16_38
  | 39, _ => zv_16_39
  | 40, _ => zv_16_40
  | 41, _ => zv_16_41
  | 42, _ => zv_16_42
  | 43, _ => zv_16_43
  | 44, _ => zv_16_44
  | 45, _ => zv_16_45
  | 46, _ => zv_16_46
  | 47, _ => zv_16_47
  | 48, _ => zv_16_48
  | 49, _ => zv_16_49
  | 50, _ => zv_16_50
  | 51, _ => zv_16_51
  | 52, _ => zv_16_52
  | 53, _ => zv_16_53
  | 54, _ => zv_16_54
  | 55, _ => zv_16_55
  | 56, _ => zv_16_56
  | 57, _ => zv_16_57
  | 58, _ => zv_16_58
  | 59, _ => zv_16_59
  | 60, _ => zv_16_60
  | i + 61, hi => absurd hi (by omega))
theorem zq_17 : zq_G 715 := zq_all zv_17_a
theorem zq_18 : zq_G 738 := zq_all zv_18_a
theorem zq_19 : zq_G 751 := zq_all zv_19_a
theorem zq_20 : zq_G 774 := zq_all zv_20_a
theorem zq_21 : zq_G 797 := zq_all zv_21_a
theorem zq_22 : zq_G 820 := zq_all zv_22_a
theorem zq_23 : zq_G 833 := zq_all zv_23_a
theorem zq_24 : zq_G 856 := zq_all zv_24_a
theorem zq_25 : zq_G 889 := zq_all zv_25_a
theorem zq_26 : zq_G 922 := zq_all zv_26_a
theorem zq_27 : zq_G 955 := zq_all zv_27_a
theorem zq_28 : zq_G 988 := zq_all zv_28_a
theorem zq_29 : zq_G 1001 := zq_all zv_29_a
theorem zq_30 : zq_G 1014 := zq_all zv_30_a
theorem zq_31 : zq_G 1027 := zq_all zv_31_a
theorem zq_32 : zq_G 1040 := zq_all zv_32_a
theorem zq_33 : zq_G 1053 := zq_all zv_33_a
theorem zq_34 : zq_G 1066 := zq_all zv_34_a
theorem zq_35 : zq_G 1079 := zq_all zv_35_a
theorem zq_36 : zq_G 1092 := zq_all zv_36_a
-- case 37 (worst) stands in a part of its own
theorem zq_38 : zq_G 1138 := zq_all zv_38_a
theorem zq_39 : zq_G 1171 := zq_all zv_39_a
theorem zq_40 : zq_G 1194 := zq_all zv_40_a
theorem zq_41 : zq_G 1253 := zq_all zv_41_a
theorem zq_42 : zq_G 1276 := zq_all zv_42_a
theorem zq_43 : zq_G 1299 := zq_all zv_43_a
theorem zq_44 : zq_G 1322 := zq_all zv_44_a
theorem zq_45 : zq_G 1355 := zq_all zv_45_a
theorem zq_46 : zq_G 1388 := zq_pts 3 zv_46_m zv_46_p (fun i hi => match i, hi with
  | 0, _ => zv_46_0
  | 1, _ => zv_46_1
  | 2, _ => zv_46_2
  | i + 3, hi => absurd hi (by omega))
theorem zq_47 : zq_G 1411 := zq_pts 3 zv_47_m zv_47_p (fun i hi => match i, hi with
  | 0, _ => zv_47_0
  | 1, _ => zv_47_1
  | 2, _ => zv_47_2
  | i + 3, hi => absurd hi (by omega))
theorem zq_48 : zq_G 1434 := zq_pts 14 zv_48_m zv_48_p (fun i hi => match i, hi with
  | 0, _ => zv_48_0
  | 1, _ => zv_48_1
  | 2, _ => zv_48_2
  | 3, _ => zv_48_3
  | 4, _ => zv_48_4
  | 5, _ => zv_48_5
  | 6, _ => zv_48_6
  | 7, _ => zv_48_7
  | 8, _ => zv_48_8
  | 9, _ => zv_48_9
  | 10, _ => zv_48_10
  | 11, _ => zv_48_11
  | 12, _ => zv_48_12
  | 13, _ => zv_48_13
  | i + 14, hi => absurd hi (by omega))
theorem zq_49 : zq_G 1457 := zq_all zv_49_a
end
section
/-! case 37: worst -/
set_option maxRecDepth 100000 in
theorem zl_64 : zx_pr (zx_ent zx_xa 150 33 (zx_run zx_xa 100000) (28, 150, 33, 0, 0) [] (zx_wt zx_t6) 0 0 [(1, .inl 64), (2, .inl 64), (3, .inl 4), (0, .inr (.inl (some 73)))] [] 33) (zx_wt zx_t6) none = true := by decide +kernel
section ZW
variable {ρ : Nat → Int32} {ex : Nat → Value} {D : va_G}
theorem zl_all : zt_T zx_xa ρ ex D (28, 150, 1000000, 0, 0) [] zx_w0 0 0 [(0, .inr (.inl (some 73)))] [] 0 [([], zx_wt zx_t6, .inl none)] := by
  have hS : zy_Snd zx_xa ρ ex D (zx_run zx_xa 100000) := zs_run zk_tt zk_aa 100000
  refine zt_bp (bp := 33) ?_ (fun o ho => ⟨none, zt_mem ho⟩)
  refine zt_go (zt_run (zx_pz_ok zl_s)) ?_
  refine zt_go (zt_one hS rfl (zx_pz_ok zl_0)) ?_
  refine zt_go (zt_one hS rfl (zx_pz_ok zl_1)) ?_
  refine zt_go (zt_one hS rfl (zx_pz_ok zl_2)) ?_
  refine zt_go (zt_one hS rfl (zx_pz_ok zl_3)) ?_
  refine zt_go (zt_one hS rfl (zx_pz_ok zl_4)) ?_
  refine zt_go (zt_one hS rfl (zx_pz_ok zl_5)) ?_
  refine zt_go (zt_one hS rfl (zx_pz_ok zl_6)) ?_
  refine zt_go (zt_one hS rfl (zx_pz_ok zl_7)) ?_
  refine zt_go (zt_one hS rfl (zx_pz_ok zl_8)) ?_
  refine zt_go (zt_one hS rfl (zx_pz_ok zl_9)) ?_
  refine zt_go (zt_one hS rfl (zx_pz_ok zl_10)) ?_
  refine zt_go (zt_one hS rfl (zx_pz_ok zl_11)) ?_
  refine zt_go (zt_one hS rfl (zx_pz_ok zl_12)) ?_
  refine zt_go (zt_one hS rfl (zx_pz_ok zl_13)) ?_
  refine zt_go (zt_one hS rfl (zx_pz_ok zl_14)) ?_
  refine zt_go (zt_one hS rfl (zx_pz_ok zl_15)) ?_
  refine zt_go (zt_one hS rfl (zx_pz_ok zl_16)) ?_
  refine zt_go (zt_one hS rfl (zx_pz_ok zl_17)) ?_
  refine zt_go (zt_one hS rfl (zx_pz_ok zl_18)) ?_
  refine zt_go (zt_one hS rfl (zx_pz_ok zl_19)) ?_
  refine zt_go (zt_one hS rfl (zx_pz_ok zl_20)) ?_
  refine zt_go (zt_one hS rfl (zx_pz_ok zl_21)) ?_
  refine zt_go (zt_one hS rfl (zx_pz_ok zl_22)) ?_
  refine zt_go (zt_one hS rfl (zx_pz_ok zl_23)) ?_
  refine zt_go (zt_one hS rfl (zx_pz_ok zl_24)) ?_
  refine zt_go (zt_one hS rfl (zx_pz_ok zl_25)) ?_
  refine zt_go (zt_one hS rfl (zx_pz_ok zl_26)) ?_
  refine zt_go (zt_one hS rfl (zx_pz_ok zl_27)) ?_
  refine zt_go (zt_one hS rfl (zx_pz_ok zl_28)) ?_
  refine zt_go (zt_one hS rfl (zx_pz_ok zl_29)) ?_
  refine zt_go (zt_one hS rfl (zx_pz_ok zl_30)) ?_
  refine zt_go (zt_one hS rfl (zx_pz_ok zl_31)) ?_
  refine zt_go (zt_one hS rfl (zx_pz_ok zl_32)) ?_
  refine zt_go (zt_one hS rfl (zx_pz_ok zl_33)) ?_
  refine zt_go (zt_one hS rfl (zx_pz_ok zl_34)) ?_
  refine zt_go (zt_one hS rfl (zx_pz_ok zl_35)) ?_
  refine zt_go (zt_one hS rfl (zx_pz_ok zl_36)) ?_
  refine zt_go (zt_one hS rfl (zx_pz_ok zl_37)) ?_
  refine zt_go (zt_one hS rfl (zx_pz_ok zl_38)) ?_
  refine zt_go (zt_one hS rfl (zx_pz_ok zl_39)) ?_
  refine zt_go (zt_one hS rfl (zx_pz_ok zl_40)) ?_
  refine zt_go (zt_one hS rfl (zx_pz_ok zl_41)) ?_
  refine zt_go (zt_one hS rfl (zx_pz_ok zl_42)) ?_
  refine zt_go (zt_one hS rfl (zx_pz_ok zl_43)) ?_
  refine zt_go (zt_one hS rfl (zx_pz_ok zl_44)) ?_
  refine zt_go (zt_one hS rfl (zx_pz_ok zl_45)) ?_
  refine zt_go (zt_one hS rfl (zx_pz_ok zl_46)) ?_
  refine zt_go (zt_one hS rfl (zx_pz_ok zl_47)) ?_
  refine zt_go (zt_one hS rfl (zx_pz_ok zl_48)) ?_
  refine zt_go (zt_one hS rfl (zx_pz_ok zl_49)) ?_
  refine zt_go (zt_one hS rfl (zx_pz_ok zl_50)) ?_
  refine zt_go (zt_one hS rfl (zx_pz_ok zl_51)) ?_
  refine zt_go (zt_one hS rfl (zx_pz_ok zl_52)) ?_
  refine zt_go (zt_one hS rfl (zx_pz_ok zl_53)) ?_
  refine zt_go (zt_one hS rfl (zx_pz_ok zl_54)) ?_
  refine zt_go (zt_one hS rfl (zx_pz_ok zl_55)) ?_
  refine zt_go (zt_one hS rfl (zx_pz_ok zl_56)) ?_
  refine zt_go (zt_one hS rfl (zx_pz_ok zl_57)) ?_
  refine zt_go (zt_one hS rfl (zx_pz_ok zl_58)) ?_
  refine zt_go (zt_one hS rfl (zx_pz_ok zl_59)) ?_
  refine zt_go (zt_one hS rfl (zx_pz_ok zl_60)) ?_
  refine zt_go (zt_one hS rfl (zx_pz_ok zl_61)) ?_
  refine zt_go (zt_one hS rfl (zx_pz_ok zl_62)) ?_
  refine zt_go (zt_one hS rfl (zx_pz_ok zl_63)) ?_
  exact zt_one hS rfl (zx_pr_ok zl_64)
end ZW
set_option maxRecDepth 100000 in
theorem zw_0a : zx_pz (zx_run zx_xa 100000 (29, 188, 12, 0, 0) [] zx_w0 0 0 [(0, .inr (.inl (some 73))), (1, .inl 0)] [] 0) [] zx_w0 0 0 [(0, .inr (.inl (some 73))), (1, .inl 0)] [.inr (.inl (some 73))] = true := by decide +kernel
set_option maxRecDepth 100000 in
theorem zw_0b : zx_pr (zx_ent zx_xa 188 12 (zx_orc (28, 150, 1000000, 0, 0) [] zx_w0 [(0, .inr (.inl (some 73)))] [([], zx_wt zx_t6, .inl none)] (zx_run zx_xa 100000)) (29, 188, 12, 0, 0) [] zx_w0 0 0 [(0, .inr (.inl (some 73))), (1, .inl 0)] [.inr (.inl (some 73))] 12) (zx_wt zx_t6) (some (.inl 9)) = true := by decide +kernel
theorem zw_0 {ρ : Nat → Int32} {ex : Nat → Value} {D : va_G} (g : zx_G) : zt_T zx_xa ρ ex D (29, 188, 1000000, 0, 0) g zx_w0 0 0 [(0, .inr (.inl (some 73))), (1, .inl 0)] [] 0 [(g, zx_wt zx_t6, .inl (some (.inl 9)))] := by
  refine zt_g ?_ g
  refine zt_bp (bp := 12) ?_ (fun o ho => ⟨some (.inl 9), zt_mem ho⟩)
  refine zt_go (zt_run (zx_pz_ok zw_0a)) ?_
  exact zt_one (zo_snd (zs_run zk_tt zk_aa 100000) zl_all) rfl (zx_pr_ok zw_0b)

set_option maxRecDepth 100000 in
theorem zw_1a : zx_pz (zx_run zx_xa 100000 (29, 188, 12, 0, 0) [] zx_w0 0 0 [(0, .inr (.inl (some 73))), (1, .inl 1)] [] 0) [] zx_w0 0 0 [(0, .inr (.inl (some 73))), (1, .inl 1)] [.inr (.inl (some 73))] = true := by decide +kernel
set_option maxRecDepth 100000 in
theorem zw_1b : zx_pr (zx_ent zx_xa 188 12 (zx_orc (28, 150, 1000000, 0, 0) [] zx_w0 [(0, .inr (.inl (some 73)))] [([], zx_wt zx_t6, .inl none)] (zx_run zx_xa 100000)) (29, 188, 12, 0, 0) [] zx_w0 0 0 [(0, .inr (.inl (some 73))), (1, .inl 1)] [.inr (.inl (some 73))] 12) (zx_wt zx_t6) (some (.inl 6)) = true := by decide +kernel
theorem zw_1 {ρ : Nat → Int32} {ex : Nat → Value} {D : va_G} (g : zx_G) : zt_T zx_xa ρ ex D (29, 188, 1000000, 0, 0) g zx_w0 0 0 [(0, .inr (.inl (some 73))), (1, .inl 1)] [] 0 [(g, zx_wt zx_t6, .inl (some (.inl 6)))] := by
  refine zt_g ?_ g
  refine zt_bp (bp := 12) ?_ (fun o ho => ⟨some (.inl 6), zt_mem ho⟩)
  refine zt_go (zt_run (zx_pz_ok zw_1a)) ?_
  exact zt_one (zo_snd (zs_run zk_tt zk_aa 100000) zl_all) rfl (zx_pr_ok zw_1b)
set_option maxRecDepth 100000 in
theorem zy_0a : zx_pz (zx_run zx_xa 100000 (30, 0, 1130, 200, 20000) (zx_gr 0 0) zx_w0 109 19183 zx_l0 [] 1115) (zx_gr 0 0) zx_w0 109 19183 zx_l0 [.inl 0, .inr (.inl (some 73)), .inl 9] = true := by decide +kernel
set_option maxRecDepth 100000 in
theorem zy_0b : zx_fin (zx_ent zx_xa 0 1130 (zx_orc (29, 188, 1000000, 0, 0) (zx_gr 0 0) zx_w0 [(0, .inr (.inl (some 73))), (1, .inl 0)] [(zx_gr 0 0, zx_wt zx_t6, .inl (some (.inl 9)))] (zx_run zx_xa 100000)) (30, 0, 1130, 200, 20000) (zx_gr 0 0) zx_w0 109 19183 zx_l0 [.inl 0, .inr (.inl (some 73)), .inl 9] 1130) = true := by decide +kernel
set_option maxRecDepth 100000 in
theorem zy_1a : zx_pz (zx_run zx_xa 100000 (30, 0, 1130, 200, 20000) (zx_gr 1 1) zx_w0 109 19183 zx_l0 [] 1115) (zx_gr 1 1) zx_w0 109 19183 zx_l0 [.inl 1, .inr (.inl (some 73)), .inl 6] = true := by decide +kernel
set_option maxRecDepth 100000 in
theorem zy_1b : zx_fin (zx_ent zx_xa 0 1130 (zx_orc (29, 188, 1000000, 0, 0) (zx_gr 1 1) zx_w0 [(0, .inr (.inl (some 73))), (1, .inl 1)] [(zx_gr 1 1, zx_wt zx_t6, .inl (some (.inl 6)))] (zx_run zx_xa 100000)) (30, 0, 1130, 200, 20000) (zx_gr 1 1) zx_w0 109 19183 zx_l0 [.inl 1, .inr (.inl (some 73)), .inl 6] 1130) = true := by decide +kernel
theorem zq_endT {xa : List (Nat × Nat × List zx_V)} {p : Program} {l : Launch} {e : Env} {s : State} {m : MethodId} {below : List Frame} {meth : Method} {c : Code} {b bp : Nat} {ρ : Nat → Int32} {ex : Nat → Value} {D : va_G} {as : List Nat} {tys : List (ClassId × FieldType)} {ws : va_W} {H : Heap} {locs : List Loc} {ls : Array Slot} {sv : List Value} {g : zx_G} {w : zx_Wd} {cs sl pc : Nat} {lo : zx_L} {st : List zx_V} {outs : List zx_O}
    (hT : zt_T xa ρ ex D (30, 0, bp, 200, 20000) g w cs sl lo st pc outs) (h2 : ∀ o ∈ outs, o.2.2 = .inl (some (.inl 1))) (C : zy_C xa ρ ex p room_1 s m #[Value.ref b] meth c (fun q => s.heap.size ≤ q) (30, 0, bp, 200, 20000)) (hr : meth.sig.returnType = ret) (hlocks : meth.locks = false) (Dy : zy_D ρ ex D s (fun q => s.heap.size ≤ q) (30, 0, bp, 200, 20000) g w cs sl as tys ws H locs) (hl : zy_l ρ ex as ls 4 lo) (hs : zy_s ρ ex as st sv) : W p l e room_1 s m #[Value.ref b] below meth c H locs cs sl (lw_Z below #[Value.ref b] s) (F0 m pc ls sv) := by
  refine hT () C Dy hl hs ?_
  intro o ho as' tys' ws' H' locs' hp
  have ho := h2 o ho
  refine ⟨fun rv hrv cs' sl' pc' ls' st' Dy' hrt => ?_, fun cs' sl' lo' st' hrv => ?_⟩
  · rw [ho] at hrv
    cases hrv
    obtain ⟨v, rfl, hv, hd⟩ := hrt
    have hv : v = .int 1 := hv
    subst hv
    have hd : decode code pc' = .ok (.ireturn, 1) := by
      rcases hd with ⟨hd, -⟩ | ⟨-, hd, -⟩
      · exact hd
      · exact absurd (show (zx_info 0).2.1 = some .long from hd) (by decide +kernel)
    have hlocs : ∀ q ∈ locs', s.heap.size ≤ q.base := Dy'.2.2.2.1.2.2
    refine va_forget hlocs ?_
    refine W.widen (k := 600000) (n := 7302250) (Nat.le_trans Dy'.2.2.2.2.2.2.1 (Nat.le_of_ble_eq_true rfl)) (Nat.le_trans Dy'.2.2.2.2.2.2.2 (Nat.le_of_ble_eq_true rfl)) ?_
    exact lw_ret C.1 C.2.1 hr hlocks hd
  · rw [ho] at hrv
    cases hrv
theorem zq_gi {ρ : Nat → Int32} (lo hi : Int) (h1 : lo ≤ (ρ 1).toInt) (h2 : (ρ 1).toInt ≤ hi) : zy_g ρ (zx_gr lo hi) := by
  intro i q hq
  have hf : ∀ j, zx_full.1 ≤ (ρ j).toInt ∧ (ρ j).toInt ≤ zx_full.2 := fun j => ⟨Int32.le_toInt _, by have := Int32.toInt_lt (ρ j); show _ ≤ (2147483647 : Int); omega⟩
  match i, hq with
  | 0, hq => cases hq; exact hf 0
  | 1, hq => cases hq; exact ⟨h1, h2⟩
  | 2, hq => cases hq; exact hf 2
  | 3, hq => cases hq; exact hf 3
  | 4, hq => cases hq; exact hf 4
  | 5, hq => cases hq; exact hf 5
theorem zy_0 {ρ : Nat → Int32} {ex : Nat → Value} {D : va_G} : ∃ outs, zt_T zx_xa ρ ex D (30, 0, 1130, 200, 20000) (zx_gr 0 0) zx_w0 109 19183 zx_l0 [] 1115 outs ∧ ∀ o ∈ outs, o.2.2 = .inl (some (.inl 1)) := by
  obtain ⟨outs, h1, h2⟩ := zx_fin_ok zy_0b
  exact ⟨outs, zt_go (zt_run (zx_pz_ok zy_0a)) (zt_one (zo_snd (zs_run zk_tt zk_aa 100000) (zw_0 _)) rfl h1), h2⟩
theorem zy_1 {ρ : Nat → Int32} {ex : Nat → Value} {D : va_G} : ∃ outs, zt_T zx_xa ρ ex D (30, 0, 1130, 200, 20000) (zx_gr 1 1) zx_w0 109 19183 zx_l0 [] 1115 outs ∧ ∀ o ∈ outs, o.2.2 = .inl (some (.inl 1)) := by
  obtain ⟨outs, h1, h2⟩ := zx_fin_ok zy_1b
  exact ⟨outs, zt_go (zt_run (zx_pz_ok zy_1a)) (zt_one (zo_snd (zs_run zk_tt zk_aa 100000) (zw_1 _)) rfl h1), h2⟩
theorem zq_37 : zq_G 1115 := by
  intro p l e s m below meth c b ρ ex D as tys ws H locs ls C hr hlocks Dy hl
  have b1 := Int32.le_toInt (ρ 1)
  have b2 := Int32.toInt_lt (ρ 1)
  rcases Int.lt_or_le (ρ 1).toInt 0 with z | z
  · exact zq_one _ _ zv_37_m C hr hlocks Dy hl b1 (by omega)
  rcases Int.lt_or_le (ρ 1).toInt 2 with y | y
  rotate_left
  · exact zq_one _ _ zv_37_p C hr hlocks Dy hl y (by omega)
  by_cases x : (ρ 1).toInt = 0
  · obtain ⟨outs, h1, h2⟩ := zy_0 (ρ := ρ) (ex := ex) (D := D)
    exact zq_endT h1 h2 C hr hlocks (Dy.g (zq_gi 0 0 (by omega) (by omega))) hl trivial
  · obtain ⟨outs, h1, h2⟩ := zy_1 (ρ := ρ) (ex := ex) (D := D)
    exact zq_endT h1 h2 C hr hlocks (Dy.g (zq_gi 1 1 (by omega) (by omega))) hl trivial
end
section
/-! THE CLAIM -/
theorem zq_stop {xa : List (Nat × Nat × List zx_V)} {ρ : Nat → Int32} {ex : Nat → Value} {D : va_G} {p : Program} {l : Launch} {e : Env} {R : Room} {s : State} {m : MethodId} {args : Array Value} {below : List Frame} {meth : Method} {c : Code} {A : Nat → Prop} {as : List Nat} {tys : List (ClassId × FieldType)} {ws : va_W} {H : Heap} {locs : List Loc} {ls : Array Slot} {sv : List Value} {Q : State → Prop} {n : Nat} {fr : zx_Fr} {g g2 : zx_G} {w w2 : zx_Wd} {cs sl cs2 sl2 pc : Nat} {lo lo2 : zx_L} {st st2 : List zx_V}
    (h : zx_run xa n fr g w cs sl lo st pc = some [(g2, w2, .inr (cs2, sl2, lo2, st2))]) (C : zy_C xa ρ ex p R s m args meth c A fr) (Dy : zy_D ρ ex D s A fr g w cs sl as tys ws H locs) (hl : zy_l ρ ex as ls (zx_info fr.2.1).1 lo) (hs : zy_s ρ ex as st sv)
    (kk : ∀ (as' : List Nat) (tys' : List (ClassId × FieldType)) (ws' : va_W) (H' : Heap) (locs' : List Loc) (ls' : Array Slot) (sv' : List Value), zy_p as as' → zy_D ρ ex D s A fr g2 w2 cs2 sl2 as' tys' ws' H' locs' → zy_l ρ ex as' ls' (zx_info fr.2.1).1 lo2 → zy_s ρ ex as' st2 sv' → W p l e R s m args below meth c H' locs' cs2 sl2 Q (F0 m fr.2.2.1 ls' sv')) : W p l e R s m args below meth c H locs cs sl Q (F0 m pc ls sv) := by
  refine zs_run zk_tt zk_aa n _ _ _ _ _ _ _ _ _ h C Dy hl hs ?_
  intro o ho as' tys' ws' H' locs' hp
  have ho : o = (g2, w2, .inr (cs2, sl2, lo2, st2)) := by
    rcases List.mem_cons.mp ho with z | z
    · exact z
    · cases z
  subst ho
  refine ⟨fun rv hrv => (by cases hrv), fun cs' sl' lo' st' hq ls' sv' Dy hl' hs' => ?_⟩
  cases hq
  exact kk as' tys' ws' H' locs' ls' sv' hp Dy hl' hs'
theorem zq_nil {ρ : Nat → Int32} {ex : Nat → Value} {as : List Nat} {sv : List Value} (h : zy_s ρ ex as [] sv) : sv = [] := by
  cases sv with
  | nil => rfl
  | cons a r => cases h
theorem zq_top {ρ : Nat → Int32} {ex : Nat → Value} {as : List Nat} {sv : List Value} (h : zy_s ρ ex as [zx_top] sv) : ∃ x, sv = [.int x] := by
  match sv, h with
  | [v], ⟨⟨x, hv⟩, _⟩ => exact ⟨x, by rw [hv]⟩
theorem zq_neg : ∀ L, L < 6 → Int32.ofNat L - 6 < 0 := by decide
/-- the script is short: nothing is called -/
theorem zq_short {p : Program} {l : Launch} {e : Env} {s : State} {m : MethodId} {below : List Frame} {meth : Method} {c : Code} {b L : Nat} {xs ρ : Nat → Int32} {ex : Nat → Value} {as : List Nat} {H : Heap} {locs : List Loc} {ls : Array Slot} {cs sl : Nat} (h6 : L < 6) (hx : p.tables.exec = Jvm.exec) (hb : c.code = code) (hr : meth.sig.returnType = ret) (hX : va_X b L xs s s.heap) (hbl : b < s.heap.size) (hlocks : meth.locks = false) (hex1 : ex 1 = .ref b) (hS : va_S (fun q : Nat => s.heap.size ≤ q) s.heap H locs) (hl : zy_l ρ ex as ls 4 zx_l0) (hc : cs ≤ 600000) (hs : sl ≤ 7302250) : W p l e room_1 s m #[Value.ref b] below meth c H locs cs sl (lw_Z below #[Value.ref b] s) (F0 m 18 ls []) := by
  obtain ⟨v3, g3, e3⟩ := hl.2.2 (3, .inl 0) List.mem_cons_self
  obtain ⟨v0, g0, e0⟩ := hl.2.2 (0, .inr (.inr (.inr (.inr (.inl 1))))) (List.mem_cons_of_mem _ (List.mem_cons_of_mem _ (List.mem_cons_of_mem _ List.mem_cons_self)))
  have e3 : v3 = .int 0 := e3
  have e0 : v0 = .ref b := by rw [← hex1]; exact e0
  rw [e3] at g3
  rw [e0] at g0
  refine lv_iload_n hx hb zd_18 rfl g3 ?_
  refine lv_aload_n hx hb zd_19 rfl g0 ?_
  refine va_slen (A := fun q : Nat => s.heap.size ≤ q) hx hb hX hbl (Nat.not_le.mpr hbl) hS zd_20 ?_
  refine lv_bipush (v := 6) hx hb zd_21 (by decide) ?_
  refine lv_isub hx hb zd_23 ?_
  refine lv_icmp_gt (tgt := 1463) hx hb zd_24 (by decide) (fun _ => ?_) (fun z => absurd (zq_neg L h6) z)
  refine lv_iconst (v := 1) hx hb zd_1463 (by decide) ?_
  have hlocs : ∀ q ∈ locs, s.heap.size ≤ q.base := hS.2.2
  refine va_forget hlocs ?_
  refine W.widen (k := 600000) (n := 7302250) hc hs ?_
  exact lw_ret hx hb hr hlocks zd_1464
def zq_offs : Array Int := #[211, 274, 297, 310, 333, 366, 399, 432, 445, 478, 501, 534, 567, 600, 613, 626, 659, 682, 705, 718, 741, 764, 787, 800, 823, 856, 889, 922, 955, 968, 981, 994, 1007, 1020, 1033, 1046, 1059, 1082, 1105, 1138, 1161, 1220, 1243, 1266, 1289, 1322, 1355, 1378, 1401]
theorem zq_sw : ∀ j, j < 49 → ∃ (off : Int) (tgt : Nat), zq_offs[j]? = some off ∧ ((33 : Nat) : Int) + off = (tgt : Int) ∧ zq_G tgt := by
  intro j hj
  match j, hj with
  | 0, _ => exact ⟨211, 244, rfl, rfl, zq_0⟩
  | 1, _ => exact ⟨274, 307, rfl, rfl, zq_1⟩
  | 2, _ => exact ⟨297, 330, rfl, rfl, zq_2⟩
  | 3, _ => exact ⟨310, 343, rfl, rfl, zq_3⟩
  | 4, _ => exact ⟨333, 366, rfl, rfl, zq_4⟩
  | 5, _ => exact ⟨366, 399, rfl, rfl, zq_5⟩
  | 6, _ => exact ⟨399, 432, rfl, rfl, zq_6⟩
  | 7, _ => exact ⟨432, 465, rfl, rfl, zq_7⟩
  | 8, _ => exact ⟨445, 478, rfl, rfl, zq_8⟩
  | 9, _ => exact ⟨478, 511, rfl, rfl, zq_9⟩
  | 10, _ => exact ⟨501, 534, rfl, rfl, zq_10⟩
  | 11, _ => exact ⟨534, 567, rfl, rfl, zq_11⟩
  | 12, _ => exact ⟨567, 600, rfl, rfl, zq_12⟩
  | 13, _ => exact ⟨600, 633, rfl, rfl, zq_13⟩
  | 14, _ => exact ⟨613, 646, rfl, rfl, zq_14⟩
  | 15, _ => exact ⟨626, 659, rfl, rfl, zq_15⟩
  | 16, _ => exact ⟨659, 692, rfl, rfl, zq_16⟩
  | 17, _ => exact ⟨682, 715, rfl, rfl, zq_17⟩
  | 18, _ => exact ⟨705, 738, rfl, rfl, zq_18⟩
  | 19, _ => exact ⟨718, 751, rfl, rfl, zq_19⟩
  | 20, _ => exact ⟨741, 774, rfl, rfl, zq_20⟩
  | 21, _ => exact ⟨764, 797, rfl, rfl, zq_21⟩
  | 22, _ => exact ⟨787, 820, rfl, rfl, zq_22⟩
  | 23, _ => exact ⟨800, 833, rfl, rfl, zq_23⟩
  | 24, _ => exact ⟨823, 856, rfl, rfl, zq_24⟩
  | 25, _ => exact ⟨856, 889, rfl, rfl, zq_25⟩
  | 26, _ => exact ⟨889, 922, rfl, rfl, zq_26⟩
  | 27, _ => exact ⟨922, 955, rfl, rfl, zq_27⟩
  | 28, _ => exact ⟨955, 988, rfl, rfl, zq_28⟩
  | 29, _ => exact ⟨968, 1001, rfl, rfl, zq_29⟩
  | 30, _ => exact ⟨981, 1014, rfl, rfl, zq_30⟩
  | 31, _ => exact ⟨994, 1027, rfl, rfl, zq_31⟩
  | 32, _ => exact ⟨1007, 1040, rfl, rfl, zq_32⟩
  | 33, _ => exact ⟨1020, 1053, rfl, rfl, zq_33⟩
  | 34, _ => exact ⟨1033, 1066, rfl, rfl, zq_34⟩
  | 35, _ => exact ⟨1046, 1079, rfl, rfl, zq_35⟩
  | 36, _ => exact ⟨1059, 1092, rfl, rfl, zq_36⟩
  | 37, _ => exact ⟨1082, 1115, rfl, rfl, zq_37⟩
  | 38, _ => exact ⟨1105, 1138, rfl, rfl, zq_38⟩
  | 39, _ => exact ⟨1138, 1171, rfl, rfl, zq_39⟩
  | 40, _ => exact ⟨1161, 1194, rfl, rfl, zq_40⟩
  | 41, _ => exact ⟨1220, 1253, rfl, rfl, zq_41⟩
  | 42, _ => exact ⟨1243, 1276, rfl, rfl, zq_42⟩
  | 43, _ => exact ⟨1266, 1299, rfl, rfl, zq_43⟩
  | 44, _ => exact ⟨1289, 1322, rfl, rfl, zq_44⟩
  | 45, _ => exact ⟨1322, 1355, rfl, rfl, zq_45⟩
  | 46, _ => exact ⟨1355, 1388, rfl, rfl, zq_46⟩
  | 47, _ => exact ⟨1378, 1411, rfl, rfl, zq_47⟩
  | 48, _ => exact ⟨1401, 1434, rfl, rfl, zq_48⟩
  | j + 49, hj => exact absurd hj (by omega)
/-- the script has six ints: one call -/
theorem zq_long {p : Program} {l : Launch} {e : Env} {s : State} {m : MethodId} {below : List Frame} {meth : Method} {c : Code} {b : Nat} {ρ : Nat → Int32} {ex : Nat → Value} {D : va_G} {as : List Nat} {tys : List (ClassId × FieldType)} {ws : va_W} {H : Heap} {locs : List Loc} {ls : Array Slot} (C6 : ∀ bp, zy_C zx_xa ρ ex p room_1 s m #[Value.ref b] meth c (fun q => s.heap.size ≤ q) (30, 0, bp, 200, 20000)) (hr : meth.sig.returnType = ret) (hlocks : meth.locks = false) (Dy : zy_D ρ ex D s (fun q => s.heap.size ≤ q) (30, 0, 33, 200, 20000) zx_g0 zx_w0 109 19183 as tys ws H locs) (hl : zy_l ρ ex as ls 4 zx_l0) : W p l e room_1 s m #[Value.ref b] below meth c H locs 109 19183 (lw_Z below #[Value.ref b] s) (F0 m 18 ls []) := by
  refine zq_stop (zx_pz_ok zv_head) (C6 33) Dy hl (sv := []) trivial ?_
  intro as2 tys2 ws2 H2 locs2 ls2 sv2 hp2 Dy2 hl2 hs2
  obtain ⟨x, rfl⟩ := zq_top hs2
  have hx := (C6 33).1
  have hb : c.code = code := (C6 33).2.1
  have hd : decode code 33 = .ok (.tableswitch 1424 0 48 zq_offs, 211) := zd_33
  by_cases hin : x.toInt < 0 ∨ 48 < x.toInt
  · exact lv_tableOut hx hb hd hin (by decide : ((33 : Nat) : Int) + 1424 = ((1457 : Nat) : Int)) (zq_49 (C6 1000000) hr hlocks Dy2 hl2)
  · obtain ⟨j, hj⟩ := Int.eq_ofNat_of_zero_le (a := x.toInt) (by omega)
    obtain ⟨off, tgt, e1, e2, e3⟩ := zq_sw j (by omega)
    exact lv_tableIn hx hb hd (by omega) (by omega) (by rw [show (x.toInt - 0).toNat = j by omega]; exact e1) e2 (e3 (C6 1000000) hr hlocks Dy2 hl2)
theorem zq_g0 (ρ : Nat → Int32) : zy_g ρ zx_g0 := by
  intro i q hq
  have hf : ∀ j, zx_full.1 ≤ (ρ j).toInt ∧ (ρ j).toInt ≤ zx_full.2 := fun j => ⟨Int32.le_toInt _, by have := Int32.toInt_lt (ρ j); show _ ≤ (2147483647 : Int); omega⟩
  match i, hq with
  | 0, hq => cases hq; exact hf 0
  | 1, hq => cases hq; exact hf 1
  | 2, hq => cases hq; exact hf 2
  | 3, hq => cases hq; exact hf 3
  | 4, hq => cases hq; exact hf 4
  | 5, hq => cases hq; exact hf 5
theorem whole_start {p : Program} {e : Env} {s : State} {m : MethodId} {below : List Frame} {meth : Method} {c : Code} (l : Launch) (hflags : l.flags = flags0) {b L : Nat} {xs : Nat → Int32} (hL : L ≤ 6) (C0 : lw_At p s m meth c b L xs) : W p l e room_1 s m #[Value.ref b] below meth c s.heap [] 0 0 (lw_Z below #[Value.ref b] s) (entryFrame m ([Value.ref b] : List Value).toArray 4) := by
  obtain ⟨ex, hex1, hX0, hX6⟩ := zq_X C0
  obtain ⟨hx, hb, hr, hml, hown, hts, hX, hbl, hlocks, hgv⟩ := C0
  have htb : ∀ w ∈ zx_tb, w.before #[Value.ref b] s = true := fun w hw => hts w (List.mem_filter.mp hw).1
  have hch : ∀ k : Nat, ∃ x : ClassId × (Nat → Nat), ∀ q : vw_C, zx_cl[k]? = some q → u_Kn s q.1 q.2.1 q.2.2 x.1 x.2 := by
    intro k
    cases hq : zx_cl[k]? with
    | none => exact ⟨(m.cls, fun _ => 0), fun q h => (by cases h)⟩
    | some q =>
      obtain ⟨n, hn⟩ := zq_ins k q hq
      obtain ⟨cC, iS, h⟩ := u_known (C := q.1) (T := q.2.1) (N := q.2.2) htb (zk_cls k q.1 q.2.1 q.2.2 hq q.1 q.2.1 q.2.2 hq).1 (htb _ hn)
      exact ⟨(cC, iS), fun q' h' => by cases h'; exact h⟩
  obtain ⟨f, hf⟩ := Classical.axiomOfChoice hch
  have hK : va_K (fun k => (f k).1, fun k => (f k).2) zx_cl [] s := ⟨fun c q hq => hf c q hq, fun k q h => by simp at h⟩
  have hP : va_P (fun k => (f k).1, fun k => (f k).2) zx_cl [] s.heap := fun k q h => by simp at h
  have hD : va_D (fun q : Nat => s.heap.size ≤ q) [] := ⟨fun i j p q h => by simp at h, fun k q h => by simp at h⟩
  have hw : zy_w xs ex [] [] [] [] := ⟨rfl, rfl, fun k e h => by simp at h⟩
  have hl := lv_entry ([Value.ref b]) (n := 4) (Nat.le_of_ble_eq_true rfl)
  rw [lg_entry_eq]
  refine zq_stop (zx_pz_ok zv_init) (zq_c p s m meth c b 18 zx_xa0 xs ex hx hb hml hown htb hX0) (D := (fun k => (f k).1, fun k => (f k).2)) (as := []) (tys := []) (ws := []) ⟨hK, hP, hD, va_S.rf, hw, zq_g0 xs, Nat.zero_le _, Nat.zero_le _⟩ ⟨hl.1, hl.2.1, fun q hq => ?_⟩ (sv := []) trivial ?_
  · rcases List.mem_cons.mp hq with rfl | hq
    · exact ⟨.ref b, hl.2.2 (0, .ref b) List.mem_cons_self, hex1.symm⟩
    · cases hq
  intro as' tys' ws' H' locs' ls' sv' hp Dy hl' hs'
  rw [zq_nil hs']
  rcases Nat.lt_or_ge L 6 with h6 | h6
  · exact zq_short h6 hx hb hr hX hbl hlocks hex1 Dy.2.2.2.1 hl' (Nat.le_of_ble_eq_true rfl) (Nat.le_of_ble_eq_true rfl)
  · exact zq_long (fun bp => zq_c p s m meth c b bp zx_xa xs ex hx hb hml hown htb (hX6 (by omega))) hr hlocks Dy hl' 
set_option maxHeartbeats 4000000 in
theorem lw_walk (l : Launch) (hflags : l.flags = flags0) (b : Addr) (xs : List Int32) : MetFree l x (headSpec (Jvm.Cond.code x code maxLocals ret :: tables_1) room_1) (lw_P b xs) (fun _ _ _ _ _ => True) lw_Q := by
  refine MetFree.of_bodyS (code := code) (maxLocals := maxLocals) (ret := ret) (by decide) ?_ ?_
  · intro args s m h hn
    obtain ⟨meth, c, h1, h2, h3, h4, h5, h6, -, -⟩ := Cond.code_spec hn (atoms_spec (ws := Jvm.Cond.code x code maxLocals ret :: tables_1) h _ List.mem_cons_self)
    exact ⟨meth, c, h1, h2, h3, h4, h5, h6⟩
  · intro p e s m args below meth c s₁ B hml0 hP _
    obtain ⟨rfl, hx, hbd, hgv⟩ := hP
    obtain ⟨scr, harrAt, hlist, hof, hsmall⟩ := hx
    obtain ⟨hcb, hkn, -, -⟩ := State.arrayAt?_spec harrAt
    have hown : s.vm.findClass R_law = some m.cls := findClass_of_methodNamed B.named
    have hts0 : ∀ c ∈ (Jvm.Cond.code x code maxLocals ret :: tables_1), c.before #[Value.ref b] s = true := atoms_spec (ws := Jvm.Cond.code x code maxLocals ret :: tables_1) B.pre
    have hts : ∀ w ∈ lw_tbl, w.before #[Value.ref b] s = true := k2_hts_sels lw_privs (fun w hw => hts0 w (List.mem_cons_of_mem _ hw)) lw_privs_ok
    have hml : c.maxLocals = 4 := B.maxLocals_eq (hts0 _ List.mem_cons_self)
    have X₀ : Stand p l e room_1 s m #[Value.ref b] below meth c s₁ [] 0 0 := Stand.of_body B
    have hh0 : s₁.heap = s.heap := by rw [B.state]; rfl
    have hsz : scr.slots.size = xs.length := by rw [← Array.length_toList, hlist, List.length_map]
    have hval : ∀ j : Nat, j < xs.length → scr.slots[j]? = some (.int (xs.getD j 0)) := fun j hj => by
      rw [← Array.getElem?_toList, hlist]
      simp [hj]
    have hbl : b < s.heap.size := (Array.getElem?_eq_some_iff.mp hcb).1
    have hX : va_X b xs.length (fun j => xs.getD j 0) s s.heap := ⟨scr, hcb, hof, hkn, hsz, hval⟩
    have K : W p l e room_1 s m #[Value.ref b] below meth c s₁.heap [] 0 0 (lw_Z below #[Value.ref b] s) (entryFrame m ([Value.ref b] : List Value).toArray 4) := by
      rw [hh0]
      exact whole_start l hflags hbd ⟨B.exec, B.bytes, B.returns, hml, hown, hts, hX, hbl, B.notSynchronized, hgv⟩
    obtain ⟨t, a1, o, b1, b2, b3⟩ := K s₁ rfl X₀
    exact ⟨t, o, a1, b1, b2, b3⟩
theorem lw_pre_spec {args : Array Value} {s : State} (h : (Jvm.Cond.and given_1 narrow_1).before args s = true) (hr : rest_1_c.before args s = true) : ∃ (b : Addr) (xs : List Int32), lw_P b xs args s := by
  have hs := flat_of_before _ h
  have hq := flat_of_before _ hr
  have hc : (Cond.count 1).before args s = true := hs _ (by decide +kernel)
  have harr : (Cond.arrayOf (.arg 0) .int).before args s = true := hs _ (by decide +kernel)
  have hle : (Cond.le (.length (.arg 0)) (.int 6)).before args s = true := hs _ (by decide +kernel)
  have hlen : (Cond.isInt (.length (.arg 0))).before args s = true := hq _ (by decide +kernel)
  have hall : (Cond.all (.arg 0) (.isInt (.elem (.arg 0) (.index 0)))).before args s = true := hq _ (by decide +kernel)
  obtain ⟨b, xs, hb, hx⟩ := State.ints_of_pre rfl harr hlen hall
  have hsm : xs.length < 2 ^ 31 := hx.choose_spec.2.2.2
  have hev : (Term.length (.arg 0)).eval args s none [] s = some (.int xs.length.toInt32) := hx.length_eval hb
  have hv := Cond.le_ints hev (show (Term.int 6).eval args s none [] s = some (.int 6) from rfl)
  have hd : xs.length.toInt32 ≤ 6 := by
    simpa [Cond.before, Cond.holds, hv] using hle
  have hN : xs.length ≤ 6 := (Int32.ofNat_le_ofNat hsm (by decide)).mp (show Int32.ofNat xs.length ≤ Int32.ofNat 6 from hd)
  exact ⟨b, xs, Cond.one_arg hc (show args[0]? = some (.ref b) from hb), hx, hN, h⟩
theorem lw_comes (l : Launch) (hflags : l.flags = flags0) : Comes l x (Jvm.Cond.code x code maxLocals ret :: tables_1) room_1 (fun tb e args s => Calls_1 tb e args s ∧ rest_1 tb e args s ∧ Pre_1 tb e args s)
    (fun _ _ args s o t => lw_Q args s o t) := by
  intro p e ha hc hk s m args below hf hfit hheap happ hpre
  obtain ⟨b, xs, hP⟩ := lw_pre_spec hpre.2.2 hpre.2.1
  obtain ⟨k, o, h1, h2, h3, hQ⟩ := lw_walk l hflags b xs p e ha hc hk s m args below hf ((Spec.applies_iff_loose hf).mp happ).1 hP trivial
  exact ⟨k, o, h1, h2, h3, hQ⟩
theorem lw_frame {s t : State} {o : Outcome} {args : Array Value} (h : Framed s o t [] 600000 7302250) :
    Framed s o t (fieldLocs frame_1_writes args s ++ arrayLocs frame_1_arrays args s ++ staticLocs frame_1_statics s) 600000 7302250 := h
theorem lw_limb (L : Cond) (hL : ∀ (args : Array Value) (s t : State), L.after args s (.returned (some (.int 1))) t = true) :
    ArmFor flags0 classFile x code maxLocals ret World_1 tables_1 room_1 Calls_1 rest_1 Pre_1
      (fun tb e a s o t => postC L tb e a s o t ∧ Framed s o t (fieldLocs frame_1_writes a s ++ arrayLocs frame_1_arrays a s ++ staticLocs frame_1_statics s) 600000 7302250) := by
  intro l hflags _ _ p e ha hc hk s m args below hf hfit hheap happ hpre
  obtain ⟨k, o, h1, h2, h3, rfl, hF⟩ := lw_comes l hflags p e ha hc hk s m args below hf hfit hheap happ hpre
  exact ⟨k, _, h1, h2, h3, hL args s _, lw_frame hF⟩
theorem i_vc : Claimed_1_1 ∧ Claimed_1_2 := ⟨lw_limb limb_1_1 (fun args s t => by simp [limb_1_1, Cond.after, Cond.holds, Cond.value]), lw_limb limb_1_2 (fun args s t => Cond.after_iff.mpr (by
  first | (rw [show limb_1_2 = Cond.eq .result (.int 1) from rfl, Cond.eq_ints (x := 1) (y := 1) rfl rfl]; simp; done) | (simp [limb_1_2, Cond.value, Term.eval]; done)))⟩
end
