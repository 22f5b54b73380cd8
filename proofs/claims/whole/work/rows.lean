section
-- ===== PART A: goes FIRST, ahead of the names: the tables' words, and 'selects' of the private methods out of them =====
/-- a private method of a class that the tables say can be made, by its rows of tables_1 -/
def lw_okq (q : MethodName × Nat) : Prop := (q.1.cls ≠ "java/lang/invoke/MethodHandle" ∧ q.1.cls ≠ "java/lang/invoke/VarHandle") ∧ Cond.instantiable q.1.cls q.2 ∈ tables_1 ∧ Cond.privateMethod q.1 ∈ tables_1 ∧ Cond.instanceMethod q.1 ∈ tables_1
theorem lw_p0 : lw_okq (⟨"SeaMill$Mill", "copyGrainFrom", "(LSeaMill$Mill;)V"⟩, 18) := ⟨⟨by decide +kernel, by decide +kernel⟩, List.mem_of_getElem? (i := 20) (by decide +kernel), List.mem_of_getElem? (i := 290) (by decide +kernel), List.mem_of_getElem? (i := 291) (by decide +kernel)⟩
theorem lw_p1 : lw_okq (⟨"SeaMill$Mill", "sacksBrought", "(II)I"⟩, 18) := ⟨⟨by decide +kernel, by decide +kernel⟩, List.mem_of_getElem? (i := 20) (by decide +kernel), List.mem_of_getElem? (i := 432) (by decide +kernel), List.mem_of_getElem? (i := 433) (by decide +kernel)⟩
theorem lw_p2 : lw_okq (⟨"SeaMill$Mill", "pledgesOf", "(I)I"⟩, 18) := ⟨⟨by decide +kernel, by decide +kernel⟩, List.mem_of_getElem? (i := 20) (by decide +kernel), List.mem_of_getElem? (i := 459) (by decide +kernel), List.mem_of_getElem? (i := 460) (by decide +kernel)⟩
theorem lw_p3 : lw_okq (⟨"SeaMill$Mill", "waitsAheadOf", "(II)Z"⟩, 18) := ⟨⟨by decide +kernel, by decide +kernel⟩, List.mem_of_getElem? (i := 20) (by decide +kernel), List.mem_of_getElem? (i := 473) (by decide +kernel), List.mem_of_getElem? (i := 474) (by decide +kernel)⟩
theorem lw_p4 : lw_okq (⟨"SeaMill$Mill", "rankInQueue", "(LSeaMill$Sack;)I"⟩, 18) := ⟨⟨by decide +kernel, by decide +kernel⟩, List.mem_of_getElem? (i := 20) (by decide +kernel), List.mem_of_getElem? (i := 477) (by decide +kernel), List.mem_of_getElem? (i := 478) (by decide +kernel)⟩
theorem lw_p5 : lw_okq (⟨"SeaMill$Mill", "loanFor", "(LSeaMill$Sack;I)I"⟩, 18) := ⟨⟨by decide +kernel, by decide +kernel⟩, List.mem_of_getElem? (i := 20) (by decide +kernel), List.mem_of_getElem? (i := 514) (by decide +kernel), List.mem_of_getElem? (i := 515) (by decide +kernel)⟩
theorem lw_p6 : lw_okq (⟨"SeaMill$Mill", "pledgesAheadOf", "(I)I"⟩, 18) := ⟨⟨by decide +kernel, by decide +kernel⟩, List.mem_of_getElem? (i := 20) (by decide +kernel), List.mem_of_getElem? (i := 553) (by decide +kernel), List.mem_of_getElem? (i := 554) (by decide +kernel)⟩
theorem lw_p7 : lw_okq (⟨"SeaMill$Mill", "dropOldPledges", "()V"⟩, 18) := ⟨⟨by decide +kernel, by decide +kernel⟩, List.mem_of_getElem? (i := 20) (by decide +kernel), List.mem_of_getElem? (i := 573) (by decide +kernel), List.mem_of_getElem? (i := 574) (by decide +kernel)⟩
theorem lw_p8 : lw_okq (⟨"SeaMill$Mill", "flowIn", "(I)V"⟩, 18) := ⟨⟨by decide +kernel, by decide +kernel⟩, List.mem_of_getElem? (i := 20) (by decide +kernel), List.mem_of_getElem? (i := 591) (by decide +kernel), List.mem_of_getElem? (i := 592) (by decide +kernel)⟩
theorem lw_p9 : lw_okq (⟨"SeaMill$Mill", "level", "()I"⟩, 18) := ⟨⟨by decide +kernel, by decide +kernel⟩, List.mem_of_getElem? (i := 20) (by decide +kernel), List.mem_of_getElem? (i := 595) (by decide +kernel), List.mem_of_getElem? (i := 596) (by decide +kernel)⟩
theorem lw_p10 : lw_okq (⟨"SeaMill$Mill", "leakOut", "(I)V"⟩, 18) := ⟨⟨by decide +kernel, by decide +kernel⟩, List.mem_of_getElem? (i := 20) (by decide +kernel), List.mem_of_getElem? (i := 602) (by decide +kernel), List.mem_of_getElem? (i := 603) (by decide +kernel)⟩
theorem lw_p11 : lw_okq (⟨"SeaMill$Mill", "grind", "(I)V"⟩, 18) := ⟨⟨by decide +kernel, by decide +kernel⟩, List.mem_of_getElem? (i := 20) (by decide +kernel), List.mem_of_getElem? (i := 606) (by decide +kernel), List.mem_of_getElem? (i := 607) (by decide +kernel)⟩
theorem lw_p12 : lw_okq (⟨"SeaMill$Mill", "firstOfQueue", "()I"⟩, 18) := ⟨⟨by decide +kernel, by decide +kernel⟩, List.mem_of_getElem? (i := 20) (by decide +kernel), List.mem_of_getElem? (i := 610) (by decide +kernel), List.mem_of_getElem? (i := 611) (by decide +kernel)⟩
theorem lw_p13 : lw_okq (⟨"SeaMill$Mill", "putOnStones", "(I)V"⟩, 18) := ⟨⟨by decide +kernel, by decide +kernel⟩, List.mem_of_getElem? (i := 20) (by decide +kernel), List.mem_of_getElem? (i := 614) (by decide +kernel), List.mem_of_getElem? (i := 615) (by decide +kernel)⟩
theorem lw_p14 : lw_okq (⟨"SeaMill$Mill", "grindSack", "(LSeaMill$Sack;I)V"⟩, 18) := ⟨⟨by decide +kernel, by decide +kernel⟩, List.mem_of_getElem? (i := 20) (by decide +kernel), List.mem_of_getElem? (i := 618) (by decide +kernel), List.mem_of_getElem? (i := 619) (by decide +kernel)⟩
theorem lw_p15 : lw_okq (⟨"SeaMill", "groundBy", "(II)I"⟩, 4) := ⟨⟨by decide +kernel, by decide +kernel⟩, List.mem_of_getElem? (i := 12) (by decide +kernel), List.mem_of_getElem? (i := 661) (by decide +kernel), List.mem_of_getElem? (i := 662) (by decide +kernel)⟩
def lw_privs_1 : List (MethodName × Nat) := [(⟨"SeaMill$Mill", "copyGrainFrom", "(LSeaMill$Mill;)V"⟩, 18), (⟨"SeaMill$Mill", "sacksBrought", "(II)I"⟩, 18), (⟨"SeaMill$Mill", "pledgesOf", "(I)I"⟩, 18), (⟨"SeaMill$Mill", "waitsAheadOf", "(II)Z"⟩, 18), (⟨"SeaMill$Mill", "rankInQueue", "(LSeaMill$Sack;)I"⟩, 18), (⟨"SeaMill$Mill", "loanFor", "(LSeaMill$Sack;I)I"⟩, 18), (⟨"SeaMill$Mill", "pledgesAheadOf", "(I)I"⟩, 18), (⟨"SeaMill$Mill", "dropOldPledges", "()V"⟩, 18), (⟨"SeaMill$Mill", "flowIn", "(I)V"⟩, 18), (⟨"SeaMill$Mill", "level", "()I"⟩, 18), (⟨"SeaMill$Mill", "leakOut", "(I)V"⟩, 18), (⟨"SeaMill$Mill", "grind", "(I)V"⟩, 18), (⟨"SeaMill$Mill", "firstOfQueue", "()I"⟩, 18), (⟨"SeaMill$Mill", "putOnStones", "(I)V"⟩, 18), (⟨"SeaMill$Mill", "grindSack", "(LSeaMill$Sack;I)V"⟩, 18), (⟨"SeaMill", "groundBy", "(II)I"⟩, 4)]
theorem lw_r1 : ∀ q ∈ lw_privs_1, lw_okq q := List.forall_mem_cons.mpr ⟨lw_p0, List.forall_mem_cons.mpr ⟨lw_p1, List.forall_mem_cons.mpr ⟨lw_p2, List.forall_mem_cons.mpr ⟨lw_p3, List.forall_mem_cons.mpr ⟨lw_p4, List.forall_mem_cons.mpr ⟨lw_p5, List.forall_mem_cons.mpr ⟨lw_p6, List.forall_mem_cons.mpr ⟨lw_p7, List.forall_mem_cons.mpr ⟨lw_p8, List.forall_mem_cons.mpr ⟨lw_p9, List.forall_mem_cons.mpr ⟨lw_p10, List.forall_mem_cons.mpr ⟨lw_p11, List.forall_mem_cons.mpr ⟨lw_p12, List.forall_mem_cons.mpr ⟨lw_p13, List.forall_mem_cons.mpr ⟨lw_p14, List.forall_mem_cons.mpr ⟨lw_p15, fun _ h => absurd h List.not_mem_nil⟩⟩⟩⟩⟩⟩⟩⟩⟩⟩⟩⟩⟩⟩⟩⟩
theorem lw_p16 : lw_okq (⟨"SeaMill$Mill", "sacksInStage", "(I)I"⟩, 18) := ⟨⟨by decide +kernel, by decide +kernel⟩, List.mem_of_getElem? (i := 20) (by decide +kernel), List.mem_of_getElem? (i := 673) (by decide +kernel), List.mem_of_getElem? (i := 674) (by decide +kernel)⟩
theorem lw_p17 : lw_okq (⟨"SeaMill$Orders", "readOrder", "()Z"⟩, 7) := ⟨⟨by decide +kernel, by decide +kernel⟩, List.mem_of_getElem? (i := 229) (by decide +kernel), List.mem_of_getElem? (i := 711) (by decide +kernel), List.mem_of_getElem? (i := 712) (by decide +kernel)⟩
theorem lw_p18 : lw_okq (⟨"SeaMill$Orders", "readSign", "(C)Z"⟩, 7) := ⟨⟨by decide +kernel, by decide +kernel⟩, List.mem_of_getElem? (i := 229) (by decide +kernel), List.mem_of_getElem? (i := 718) (by decide +kernel), List.mem_of_getElem? (i := 719) (by decide +kernel)⟩
theorem lw_p19 : lw_okq (⟨"SeaMill$Orders", "readNumber", "(I)Z"⟩, 7) := ⟨⟨by decide +kernel, by decide +kernel⟩, List.mem_of_getElem? (i := 229) (by decide +kernel), List.mem_of_getElem? (i := 722) (by decide +kernel), List.mem_of_getElem? (i := 723) (by decide +kernel)⟩
theorem lw_p20 : lw_okq (⟨"SeaMill$Orders", "doOrder", "(LSeaMill$Mill;)I"⟩, 7) := ⟨⟨by decide +kernel, by decide +kernel⟩, List.mem_of_getElem? (i := 229) (by decide +kernel), List.mem_of_getElem? (i := 727) (by decide +kernel), List.mem_of_getElem? (i := 728) (by decide +kernel)⟩
theorem lw_p21 : lw_okq (⟨"SeaMill$Orders", "isKnown", "(LSeaMill$Mill;)Z"⟩, 7) := ⟨⟨by decide +kernel, by decide +kernel⟩, List.mem_of_getElem? (i := 229) (by decide +kernel), List.mem_of_getElem? (i := 731) (by decide +kernel), List.mem_of_getElem? (i := 732) (by decide +kernel)⟩
theorem lw_p22 : lw_okq (⟨"SeaMill$Orders", "answerOf", "(LSeaMill$Mill;)I"⟩, 7) := ⟨⟨by decide +kernel, by decide +kernel⟩, List.mem_of_getElem? (i := 229) (by decide +kernel), List.mem_of_getElem? (i := 738) (by decide +kernel), List.mem_of_getElem? (i := 739) (by decide +kernel)⟩
theorem lw_p23 : lw_okq (⟨"SeaMillModel", "keeps", "()V"⟩, 10) := ⟨⟨by decide +kernel, by decide +kernel⟩, List.mem_of_getElem? (i := 751) (by decide +kernel), List.mem_of_getElem? (i := 802) (by decide +kernel), List.mem_of_getElem? (i := 803) (by decide +kernel)⟩
theorem lw_p24 : lw_okq (⟨"SeaMillModel", "acted", "(I)I"⟩, 10) := ⟨⟨by decide +kernel, by decide +kernel⟩, List.mem_of_getElem? (i := 751) (by decide +kernel), List.mem_of_getElem? (i := 806) (by decide +kernel), List.mem_of_getElem? (i := 807) (by decide +kernel)⟩
theorem lw_p25 : lw_okq (⟨"SeaMillModel", "gates", "(I)I"⟩, 10) := ⟨⟨by decide +kernel, by decide +kernel⟩, List.mem_of_getElem? (i := 751) (by decide +kernel), List.mem_of_getElem? (i := 822) (by decide +kernel), List.mem_of_getElem? (i := 823) (by decide +kernel)⟩
theorem lw_p26 : lw_okq (⟨"SeaMillModel", "brings", "(III)I"⟩, 10) := ⟨⟨by decide +kernel, by decide +kernel⟩, List.mem_of_getElem? (i := 751) (by decide +kernel), List.mem_of_getElem? (i := 840) (by decide +kernel), List.mem_of_getElem? (i := 841) (by decide +kernel)⟩
theorem lw_p27 : lw_okq (⟨"SeaMillModel", "isFarmer", "(I)Z"⟩, 10) := ⟨⟨by decide +kernel, by decide +kernel⟩, List.mem_of_getElem? (i := 751) (by decide +kernel), List.mem_of_getElem? (i := 844) (by decide +kernel), List.mem_of_getElem? (i := 845) (by decide +kernel)⟩
theorem lw_p28 : lw_okq (⟨"SeaMillModel", "isKind", "(I)Z"⟩, 10) := ⟨⟨by decide +kernel, by decide +kernel⟩, List.mem_of_getElem? (i := 751) (by decide +kernel), List.mem_of_getElem? (i := 848) (by decide +kernel), List.mem_of_getElem? (i := 849) (by decide +kernel)⟩
theorem lw_p29 : lw_okq (⟨"SeaMillModel", "put", "(III)V"⟩, 10) := ⟨⟨by decide +kernel, by decide +kernel⟩, List.mem_of_getElem? (i := 751) (by decide +kernel), List.mem_of_getElem? (i := 852) (by decide +kernel), List.mem_of_getElem? (i := 853) (by decide +kernel)⟩
theorem lw_p30 : lw_okq (⟨"SeaMillModel", "isSack", "(I)Z"⟩, 10) := ⟨⟨by decide +kernel, by decide +kernel⟩, List.mem_of_getElem? (i := 751) (by decide +kernel), List.mem_of_getElem? (i := 860) (by decide +kernel), List.mem_of_getElem? (i := 861) (by decide +kernel)⟩
theorem lw_p31 : lw_okq (⟨"SeaMillModel", "of", "(II)I"⟩, 10) := ⟨⟨by decide +kernel, by decide +kernel⟩, List.mem_of_getElem? (i := 751) (by decide +kernel), List.mem_of_getElem? (i := 864) (by decide +kernel), List.mem_of_getElem? (i := 865) (by decide +kernel)⟩
def lw_privs_2 : List (MethodName × Nat) := [(⟨"SeaMill$Mill", "sacksInStage", "(I)I"⟩, 18), (⟨"SeaMill$Orders", "readOrder", "()Z"⟩, 7), (⟨"SeaMill$Orders", "readSign", "(C)Z"⟩, 7), (⟨"SeaMill$Orders", "readNumber", "(I)Z"⟩, 7), (⟨"SeaMill$Orders", "doOrder", "(LSeaMill$Mill;)I"⟩, 7), (⟨"SeaMill$Orders", "isKnown", "(LSeaMill$Mill;)Z"⟩, 7), (⟨"SeaMill$Orders", "answerOf", "(LSeaMill$Mill;)I"⟩, 7), (⟨"SeaMillModel", "keeps", "()V"⟩, 10), (⟨"SeaMillModel", "acted", "(I)I"⟩, 10), (⟨"SeaMillModel", "gates", "(I)I"⟩, 10), (⟨"SeaMillModel", "brings", "(III)I"⟩, 10), (⟨"SeaMillModel", "isFarmer", "(I)Z"⟩, 10), (⟨"SeaMillModel", "isKind", "(I)Z"⟩, 10), (⟨"SeaMillModel", "put", "(III)V"⟩, 10), (⟨"SeaMillModel", "isSack", "(I)Z"⟩, 10), (⟨"SeaMillModel", "of", "(II)I"⟩, 10)]
theorem lw_r2 : ∀ q ∈ lw_privs_2, lw_okq q := List.forall_mem_cons.mpr ⟨lw_p16, List.forall_mem_cons.mpr ⟨lw_p17, List.forall_mem_cons.mpr ⟨lw_p18, List.forall_mem_cons.mpr ⟨lw_p19, List.forall_mem_cons.mpr ⟨lw_p20, List.forall_mem_cons.mpr ⟨lw_p21, List.forall_mem_cons.mpr ⟨lw_p22, List.forall_mem_cons.mpr ⟨lw_p23, List.forall_mem_cons.mpr ⟨lw_p24, List.forall_mem_cons.mpr ⟨lw_p25, List.forall_mem_cons.mpr ⟨lw_p26, List.forall_mem_cons.mpr ⟨lw_p27, List.forall_mem_cons.mpr ⟨lw_p28, List.forall_mem_cons.mpr ⟨lw_p29, List.forall_mem_cons.mpr ⟨lw_p30, List.forall_mem_cons.mpr ⟨lw_p31, fun _ h => absurd h List.not_mem_nil⟩⟩⟩⟩⟩⟩⟩⟩⟩⟩⟩⟩⟩⟩⟩⟩
theorem lw_p32 : lw_okq (⟨"SeaMillModel", "fetches", "(I)I"⟩, 10) := ⟨⟨by decide +kernel, by decide +kernel⟩, List.mem_of_getElem? (i := 751) (by decide +kernel), List.mem_of_getElem? (i := 873) (by decide +kernel), List.mem_of_getElem? (i := 874) (by decide +kernel)⟩
theorem lw_p33 : lw_okq (⟨"SeaMillModel", "flour", "(I)I"⟩, 10) := ⟨⟨by decide +kernel, by decide +kernel⟩, List.mem_of_getElem? (i := 751) (by decide +kernel), List.mem_of_getElem? (i := 877) (by decide +kernel), List.mem_of_getElem? (i := 878) (by decide +kernel)⟩
theorem lw_p34 : lw_okq (⟨"SeaMillModel", "toll", "(I)I"⟩, 10) := ⟨⟨by decide +kernel, by decide +kernel⟩, List.mem_of_getElem? (i := 751) (by decide +kernel), List.mem_of_getElem? (i := 881) (by decide +kernel), List.mem_of_getElem? (i := 882) (by decide +kernel)⟩
theorem lw_p35 : lw_okq (⟨"SeaMillModel", "dust", "(I)I"⟩, 10) := ⟨⟨by decide +kernel, by decide +kernel⟩, List.mem_of_getElem? (i := 751) (by decide +kernel), List.mem_of_getElem? (i := 885) (by decide +kernel), List.mem_of_getElem? (i := 886) (by decide +kernel)⟩
theorem lw_p36 : lw_okq (⟨"SeaMillModel", "many", "(IIZ)I"⟩, 10) := ⟨⟨by decide +kernel, by decide +kernel⟩, List.mem_of_getElem? (i := 751) (by decide +kernel), List.mem_of_getElem? (i := 893) (by decide +kernel), List.mem_of_getElem? (i := 894) (by decide +kernel)⟩
theorem lw_p37 : lw_okq (⟨"SeaMillModel", "sum", "(III)I"⟩, 10) := ⟨⟨by decide +kernel, by decide +kernel⟩, List.mem_of_getElem? (i := 751) (by decide +kernel), List.mem_of_getElem? (i := 897) (by decide +kernel), List.mem_of_getElem? (i := 898) (by decide +kernel)⟩
theorem lw_p38 : lw_okq (⟨"SeaMillModel", "told", "(II)I"⟩, 10) := ⟨⟨by decide +kernel, by decide +kernel⟩, List.mem_of_getElem? (i := 751) (by decide +kernel), List.mem_of_getElem? (i := 901) (by decide +kernel), List.mem_of_getElem? (i := 902) (by decide +kernel)⟩
theorem lw_p39 : lw_okq (⟨"SeaMillModel", "grain", "(I)I"⟩, 10) := ⟨⟨by decide +kernel, by decide +kernel⟩, List.mem_of_getElem? (i := 751) (by decide +kernel), List.mem_of_getElem? (i := 905) (by decide +kernel), List.mem_of_getElem? (i := 906) (by decide +kernel)⟩
theorem lw_p40 : lw_okq (⟨"SeaMillModel", "came", "(I)I"⟩, 10) := ⟨⟨by decide +kernel, by decide +kernel⟩, List.mem_of_getElem? (i := 751) (by decide +kernel), List.mem_of_getElem? (i := 913) (by decide +kernel), List.mem_of_getElem? (i := 914) (by decide +kernel)⟩
theorem lw_p41 : lw_okq (⟨"SeaMillModel", "placeOf", "(I)I"⟩, 10) := ⟨⟨by decide +kernel, by decide +kernel⟩, List.mem_of_getElem? (i := 751) (by decide +kernel), List.mem_of_getElem? (i := 921) (by decide +kernel), List.mem_of_getElem? (i := 922) (by decide +kernel)⟩
theorem lw_p42 : lw_okq (⟨"SeaMillModel", "weight", "(I)I"⟩, 10) := ⟨⟨by decide +kernel, by decide +kernel⟩, List.mem_of_getElem? (i := 751) (by decide +kernel), List.mem_of_getElem? (i := 925) (by decide +kernel), List.mem_of_getElem? (i := 926) (by decide +kernel)⟩
theorem lw_p43 : lw_okq (⟨"SeaMillModel", "hardness", "(I)I"⟩, 10) := ⟨⟨by decide +kernel, by decide +kernel⟩, List.mem_of_getElem? (i := 751) (by decide +kernel), List.mem_of_getElem? (i := 929) (by decide +kernel), List.mem_of_getElem? (i := 930) (by decide +kernel)⟩
theorem lw_p44 : lw_okq (⟨"SeaMillModel", "waitingAt", "(I)I"⟩, 10) := ⟨⟨by decide +kernel, by decide +kernel⟩, List.mem_of_getElem? (i := 751) (by decide +kernel), List.mem_of_getElem? (i := 938) (by decide +kernel), List.mem_of_getElem? (i := 939) (by decide +kernel)⟩
theorem lw_p45 : lw_okq (⟨"SeaMillModel", "pledges", "(II)I"⟩, 10) := ⟨⟨by decide +kernel, by decide +kernel⟩, List.mem_of_getElem? (i := 751) (by decide +kernel), List.mem_of_getElem? (i := 956) (by decide +kernel), List.mem_of_getElem? (i := 957) (by decide +kernel)⟩
theorem lw_p46 : lw_okq (⟨"SeaMillModel", "owes", "(I)I"⟩, 10) := ⟨⟨by decide +kernel, by decide +kernel⟩, List.mem_of_getElem? (i := 751) (by decide +kernel), List.mem_of_getElem? (i := 968) (by decide +kernel), List.mem_of_getElem? (i := 969) (by decide +kernel)⟩
theorem lw_p47 : lw_okq (⟨"SeaMillModel", "redeems", "(I)I"⟩, 10) := ⟨⟨by decide +kernel, by decide +kernel⟩, List.mem_of_getElem? (i := 751) (by decide +kernel), List.mem_of_getElem? (i := 976) (by decide +kernel), List.mem_of_getElem? (i := 977) (by decide +kernel)⟩
def lw_privs_3 : List (MethodName × Nat) := [(⟨"SeaMillModel", "fetches", "(I)I"⟩, 10), (⟨"SeaMillModel", "flour", "(I)I"⟩, 10), (⟨"SeaMillModel", "toll", "(I)I"⟩, 10), (⟨"SeaMillModel", "dust", "(I)I"⟩, 10), (⟨"SeaMillModel", "many", "(IIZ)I"⟩, 10), (⟨"SeaMillModel", "sum", "(III)I"⟩, 10), (⟨"SeaMillModel", "told", "(II)I"⟩, 10), (⟨"SeaMillModel", "grain", "(I)I"⟩, 10), (⟨"SeaMillModel", "came", "(I)I"⟩, 10), (⟨"SeaMillModel", "placeOf", "(I)I"⟩, 10), (⟨"SeaMillModel", "weight", "(I)I"⟩, 10), (⟨"SeaMillModel", "hardness", "(I)I"⟩, 10), (⟨"SeaMillModel", "waitingAt", "(I)I"⟩, 10), (⟨"SeaMillModel", "pledges", "(II)I"⟩, 10), (⟨"SeaMillModel", "owes", "(I)I"⟩, 10), (⟨"SeaMillModel", "redeems", "(I)I"⟩, 10)]
theorem lw_r3 : ∀ q ∈ lw_privs_3, lw_okq q := List.forall_mem_cons.mpr ⟨lw_p32, List.forall_mem_cons.mpr ⟨lw_p33, List.forall_mem_cons.mpr ⟨lw_p34, List.forall_mem_cons.mpr ⟨lw_p35, List.forall_mem_cons.mpr ⟨lw_p36, List.forall_mem_cons.mpr ⟨lw_p37, List.forall_mem_cons.mpr ⟨lw_p38, List.forall_mem_cons.mpr ⟨lw_p39, List.forall_mem_cons.mpr ⟨lw_p40, List.forall_mem_cons.mpr ⟨lw_p41, List.forall_mem_cons.mpr ⟨lw_p42, List.forall_mem_cons.mpr ⟨lw_p43, List.forall_mem_cons.mpr ⟨lw_p44, List.forall_mem_cons.mpr ⟨lw_p45, List.forall_mem_cons.mpr ⟨lw_p46, List.forall_mem_cons.mpr ⟨lw_p47, fun _ h => absurd h List.not_mem_nil⟩⟩⟩⟩⟩⟩⟩⟩⟩⟩⟩⟩⟩⟩⟩⟩
theorem lw_p48 : lw_okq (⟨"SeaMillModel", "ahead", "(I)I"⟩, 10) := ⟨⟨by decide +kernel, by decide +kernel⟩, List.mem_of_getElem? (i := 751) (by decide +kernel), List.mem_of_getElem? (i := 984) (by decide +kernel), List.mem_of_getElem? (i := 985) (by decide +kernel)⟩
theorem lw_p49 : lw_okq (⟨"SeaMillModel", "goes", "()V"⟩, 10) := ⟨⟨by decide +kernel, by decide +kernel⟩, List.mem_of_getElem? (i := 751) (by decide +kernel), List.mem_of_getElem? (i := 992) (by decide +kernel), List.mem_of_getElem? (i := 993) (by decide +kernel)⟩
theorem lw_p50 : lw_okq (⟨"SeaMillModel", "falls", "()V"⟩, 10) := ⟨⟨by decide +kernel, by decide +kernel⟩, List.mem_of_getElem? (i := 751) (by decide +kernel), List.mem_of_getElem? (i := 996) (by decide +kernel), List.mem_of_getElem? (i := 997) (by decide +kernel)⟩
theorem lw_p51 : lw_okq (⟨"SeaMillModel", "flows", "()V"⟩, 10) := ⟨⟨by decide +kernel, by decide +kernel⟩, List.mem_of_getElem? (i := 751) (by decide +kernel), List.mem_of_getElem? (i := 1000) (by decide +kernel), List.mem_of_getElem? (i := 1001) (by decide +kernel)⟩
theorem lw_p52 : lw_okq (⟨"SeaMillModel", "head", "()I"⟩, 10) := ⟨⟨by decide +kernel, by decide +kernel⟩, List.mem_of_getElem? (i := 751) (by decide +kernel), List.mem_of_getElem? (i := 1004) (by decide +kernel), List.mem_of_getElem? (i := 1005) (by decide +kernel)⟩
theorem lw_p53 : lw_okq (⟨"SeaMillModel", "sea", "(I)I"⟩, 10) := ⟨⟨by decide +kernel, by decide +kernel⟩, List.mem_of_getElem? (i := 751) (by decide +kernel), List.mem_of_getElem? (i := 1008) (by decide +kernel), List.mem_of_getElem? (i := 1009) (by decide +kernel)⟩
theorem lw_p54 : lw_okq (⟨"SeaMillModel", "grinds", "()V"⟩, 10) := ⟨⟨by decide +kernel, by decide +kernel⟩, List.mem_of_getElem? (i := 751) (by decide +kernel), List.mem_of_getElem? (i := 1012) (by decide +kernel), List.mem_of_getElem? (i := 1013) (by decide +kernel)⟩
theorem lw_p55 : lw_okq (⟨"SeaMillModel", "sacksIn", "(I)I"⟩, 10) := ⟨⟨by decide +kernel, by decide +kernel⟩, List.mem_of_getElem? (i := 751) (by decide +kernel), List.mem_of_getElem? (i := 1016) (by decide +kernel), List.mem_of_getElem? (i := 1017) (by decide +kernel)⟩
theorem lw_p56 : lw_okq (⟨"SeaMillModel", "comes", "(I)V"⟩, 10) := ⟨⟨by decide +kernel, by decide +kernel⟩, List.mem_of_getElem? (i := 751) (by decide +kernel), List.mem_of_getElem? (i := 1020) (by decide +kernel), List.mem_of_getElem? (i := 1021) (by decide +kernel)⟩
theorem lw_p57 : lw_okq (⟨"SeaMillModel", "lays", "()V"⟩, 10) := ⟨⟨by decide +kernel, by decide +kernel⟩, List.mem_of_getElem? (i := 751) (by decide +kernel), List.mem_of_getElem? (i := 1040) (by decide +kernel), List.mem_of_getElem? (i := 1041) (by decide +kernel)⟩
theorem lw_p58 : lw_okq (⟨"SeaMillModel", "restores", "()V"⟩, 10) := ⟨⟨by decide +kernel, by decide +kernel⟩, List.mem_of_getElem? (i := 751) (by decide +kernel), List.mem_of_getElem? (i := 1044) (by decide +kernel), List.mem_of_getElem? (i := 1045) (by decide +kernel)⟩
theorem lw_p59 : lw_okq (⟨"SeaMillModel", "faulty", "()I"⟩, 10) := ⟨⟨by decide +kernel, by decide +kernel⟩, List.mem_of_getElem? (i := 751) (by decide +kernel), List.mem_of_getElem? (i := 1072) (by decide +kernel), List.mem_of_getElem? (i := 1073) (by decide +kernel)⟩
theorem lw_p60 : lw_okq (⟨"SeaMillModel", "doesNext", "()I"⟩, 10) := ⟨⟨by decide +kernel, by decide +kernel⟩, List.mem_of_getElem? (i := 751) (by decide +kernel), List.mem_of_getElem? (i := 1076) (by decide +kernel), List.mem_of_getElem? (i := 1077) (by decide +kernel)⟩
theorem lw_p61 : lw_okq (⟨"SeaMillModel", "readsForm", "(I)Z"⟩, 10) := ⟨⟨by decide +kernel, by decide +kernel⟩, List.mem_of_getElem? (i := 751) (by decide +kernel), List.mem_of_getElem? (i := 1083) (by decide +kernel), List.mem_of_getElem? (i := 1084) (by decide +kernel)⟩
theorem lw_p62 : lw_okq (⟨"SeaMillModel", "passes", "(C)Z"⟩, 10) := ⟨⟨by decide +kernel, by decide +kernel⟩, List.mem_of_getElem? (i := 751) (by decide +kernel), List.mem_of_getElem? (i := 1087) (by decide +kernel), List.mem_of_getElem? (i := 1088) (by decide +kernel)⟩
theorem lw_p63 : lw_okq (⟨"SeaMillModel", "takes", "(I)Z"⟩, 10) := ⟨⟨by decide +kernel, by decide +kernel⟩, List.mem_of_getElem? (i := 751) (by decide +kernel), List.mem_of_getElem? (i := 1091) (by decide +kernel), List.mem_of_getElem? (i := 1092) (by decide +kernel)⟩
def lw_privs_4 : List (MethodName × Nat) := [(⟨"SeaMillModel", "ahead", "(I)I"⟩, 10), (⟨"SeaMillModel", "goes", "()V"⟩, 10), (⟨"SeaMillModel", "falls", "()V"⟩, 10), (⟨"SeaMillModel", "flows", "()V"⟩, 10), (⟨"SeaMillModel", "head", "()I"⟩, 10), (⟨"SeaMillModel", "sea", "(I)I"⟩, 10), (⟨"SeaMillModel", "grinds", "()V"⟩, 10), (⟨"SeaMillModel", "sacksIn", "(I)I"⟩, 10), (⟨"SeaMillModel", "comes", "(I)V"⟩, 10), (⟨"SeaMillModel", "lays", "()V"⟩, 10), (⟨"SeaMillModel", "restores", "()V"⟩, 10), (⟨"SeaMillModel", "faulty", "()I"⟩, 10), (⟨"SeaMillModel", "doesNext", "()I"⟩, 10), (⟨"SeaMillModel", "readsForm", "(I)Z"⟩, 10), (⟨"SeaMillModel", "passes", "(C)Z"⟩, 10), (⟨"SeaMillModel", "takes", "(I)Z"⟩, 10)]
theorem lw_r4 : ∀ q ∈ lw_privs_4, lw_okq q := List.forall_mem_cons.mpr ⟨lw_p48, List.forall_mem_cons.mpr ⟨lw_p49, List.forall_mem_cons.mpr ⟨lw_p50, List.forall_mem_cons.mpr ⟨lw_p51, List.forall_mem_cons.mpr ⟨lw_p52, List.forall_mem_cons.mpr ⟨lw_p53, List.forall_mem_cons.mpr ⟨lw_p54, List.forall_mem_cons.mpr ⟨lw_p55, List.forall_mem_cons.mpr ⟨lw_p56, List.forall_mem_cons.mpr ⟨lw_p57, List.forall_mem_cons.mpr ⟨lw_p58, List.forall_mem_cons.mpr ⟨lw_p59, List.forall_mem_cons.mpr ⟨lw_p60, List.forall_mem_cons.mpr ⟨lw_p61, List.forall_mem_cons.mpr ⟨lw_p62, List.forall_mem_cons.mpr ⟨lw_p63, fun _ h => absurd h List.not_mem_nil⟩⟩⟩⟩⟩⟩⟩⟩⟩⟩⟩⟩⟩⟩⟩⟩
theorem lw_p64 : lw_okq (⟨"SeaMillModel", "does", "(C)I"⟩, 10) := ⟨⟨by decide +kernel, by decide +kernel⟩, List.mem_of_getElem? (i := 751) (by decide +kernel), List.mem_of_getElem? (i := 1095) (by decide +kernel), List.mem_of_getElem? (i := 1096) (by decide +kernel)⟩
def lw_privs_5 : List (MethodName × Nat) := [(⟨"SeaMillModel", "does", "(C)I"⟩, 10)]
theorem lw_r5 : ∀ q ∈ lw_privs_5, lw_okq q := List.forall_mem_cons.mpr ⟨lw_p64, fun _ h => absurd h List.not_mem_nil⟩
def lw_privs : List (MethodName × Nat) := lw_privs_1 ++ (lw_privs_2 ++ (lw_privs_3 ++ (lw_privs_4 ++ (lw_privs_5))))
def lw_tbl : List Cond := k2_sels lw_privs ++ tables_1
theorem lw_privs_ok : ∀ q ∈ lw_privs, lw_okq q := by
  show ∀ q ∈ lw_privs_1 ++ (lw_privs_2 ++ (lw_privs_3 ++ (lw_privs_4 ++ (lw_privs_5)))), lw_okq q
  exact List.forall_mem_append.mpr ⟨lw_r1, List.forall_mem_append.mpr ⟨lw_r2, List.forall_mem_append.mpr ⟨lw_r3, List.forall_mem_append.mpr ⟨lw_r4, lw_r5⟩⟩⟩⟩
-- ===== end of PART A; then your names; then what follows =====
end
section
def RX0 : String := "SeaMill$Farmer"
def TX0 : u_T := fun k => match k with
  | 0 => ("SeaMill$Farmer", "purse", "I", false)
  | _ => ("SeaMill$Farmer", "turns", "I", false)
def tyX0 : Nat → FieldType := fun k => match k with
  | 0 => .int
  | _ => .int
theorem nmX0 : ∀ a, a < 2 → ∀ b, b < 2 → a ≠ b → (TX0 a).2.1 ≠ (TX0 b).2.1 := by decide +kernel
theorem tyX0_ok : ∀ k, k < 2 → parseFieldDescriptor (TX0 k).2.2.1 = some (tyX0 k) := by decide +kernel
abbrev cX0_init : ByteArray := prog_2_method_1_code
def yX0_init : MethodName := ⟨RX0, "<init>", "()V"⟩
abbrev cX0_takeFrom : ByteArray := prog_2_method_2_code
def yX0_takeFrom : MethodName := ⟨RX0, "takeFrom", "(LSeaMill$Farmer;)V"⟩
def RX1 : String := "SeaMill$History"
def TX1 : u_T := fun k => match k with
  | 0 => ("SeaMill$History", "states", "[LSeaMill$Mill;", true)
  | 1 => ("SeaMill$History", "first", "I", false)
  | _ => ("SeaMill$History", "size", "I", false)
def tyX1 : Nat → FieldType := fun k => match k with
  | 0 => .array (.object "SeaMill$Mill")
  | 1 => .int
  | _ => .int
theorem nmX1 : ∀ a, a < 3 → ∀ b, b < 3 → a ≠ b → (TX1 a).2.1 ≠ (TX1 b).2.1 := by decide +kernel
theorem tyX1_ok : ∀ k, k < 3 → parseFieldDescriptor (TX1 k).2.2.1 = some (tyX1 k) := by decide +kernel
abbrev cX1_init : ByteArray := prog_3_method_1_code
def yX1_init : MethodName := ⟨RX1, "<init>", "()V"⟩
abbrev cX1_hold : ByteArray := prog_3_method_2_code
def yX1_hold : MethodName := ⟨RX1, "hold", "(LSeaMill$Mill;)V"⟩
abbrev cX1_keepIfDone : ByteArray := prog_3_method_3_code
def yX1_keepIfDone : MethodName := ⟨RX1, "keepIfDone", "(I)I"⟩
abbrev cX1_restore : ByteArray := prog_3_method_4_code
def yX1_restore : MethodName := ⟨RX1, "restore", "(LSeaMill$Mill;)I"⟩
def RX2 : String := "SeaMill$Kind"
def TX2 : u_T := fun k => match k with
  | 0 => ("SeaMill$Kind", "hardness", "I", false)
  | 1 => ("SeaMill$Kind", "dustPercent", "I", false)
  | _ => ("SeaMill$Kind", "price", "I", false)
def tyX2 : Nat → FieldType := fun k => match k with
  | 0 => .int
  | 1 => .int
  | _ => .int
theorem nmX2 : ∀ a, a < 3 → ∀ b, b < 3 → a ≠ b → (TX2 a).2.1 ≠ (TX2 b).2.1 := by decide +kernel
theorem tyX2_ok : ∀ k, k < 3 → parseFieldDescriptor (TX2 k).2.2.1 = some (tyX2 k) := by decide +kernel
abbrev cX2_init : ByteArray := prog_4_method_1_code
def yX2_init : MethodName := ⟨RX2, "<init>", "()V"⟩
abbrev cX2_takeFrom : ByteArray := prog_4_method_2_code
def yX2_takeFrom : MethodName := ⟨RX2, "takeFrom", "(LSeaMill$Kind;)V"⟩
def RX3 : String := "SeaMill$Mill"
def TX3 : u_T := fun k => match k with
  | 0 => ("SeaMill$Mill", "settings", "[I", true)
  | 1 => ("SeaMill$Mill", "leaks", "[I", true)
  | 2 => ("SeaMill$Mill", "kinds", "[LSeaMill$Kind;", true)
  | 3 => ("SeaMill$Mill", "farmers", "[LSeaMill$Farmer;", true)
  | 4 => ("SeaMill$Mill", "sacks", "[LSeaMill$Sack;", true)
  | 5 => ("SeaMill$Mill", "kindCount", "I", false)
  | 6 => ("SeaMill$Mill", "farmerCount", "I", false)
  | 7 => ("SeaMill$Mill", "sackCount", "I", false)
  | 8 => ("SeaMill$Mill", "time", "I", false)
  | 9 => ("SeaMill$Mill", "volume", "I", false)
  | 10 => ("SeaMill$Mill", "locked", "I", false)
  | 11 => ("SeaMill$Mill", "opening", "I", false)
  | 12 => ("SeaMill$Mill", "sackOnStones", "I", false)
  | 13 => ("SeaMill$Mill", "latestKind", "I", false)
  | 14 => ("SeaMill$Mill", "flowedIn", "I", false)
  | 15 => ("SeaMill$Mill", "leakedOut", "I", false)
  | 16 => ("SeaMill$Mill", "used", "I", false)
  | _ => ("SeaMill$Mill", "ground", "I", false)
def tyX3 : Nat → FieldType := fun k => match k with
  | 0 => .array .int
  | 1 => .array .int
  | 2 => .array (.object "SeaMill$Kind")
  | 3 => .array (.object "SeaMill$Farmer")
  | 4 => .array (.object "SeaMill$Sack")
  | 5 => .int
  | 6 => .int
  | 7 => .int
  | 8 => .int
  | 9 => .int
  | 10 => .int
  | 11 => .int
  | 12 => .int
  | 13 => .int
  | 14 => .int
  | 15 => .int
  | 16 => .int
  | _ => .int
theorem nmX3 : ∀ a, a < 18 → ∀ b, b < 18 → a ≠ b → (TX3 a).2.1 ≠ (TX3 b).2.1 := by decide +kernel
theorem tyX3_ok : ∀ k, k < 18 → parseFieldDescriptor (TX3 k).2.2.1 = some (tyX3 k) := by decide +kernel
abbrev cX3_init : ByteArray := prog_5_method_1_code
def yX3_init : MethodName := ⟨RX3, "<init>", "()V"⟩
abbrev cX3_copyFrom : ByteArray := prog_5_method_2_code
def yX3_copyFrom : MethodName := ⟨RX3, "copyFrom", "(LSeaMill$Mill;)V"⟩
abbrev cX3_copyGrainFrom : ByteArray := prog_5_method_3_code
def yX3_copyGrainFrom : MethodName := ⟨RX3, "copyGrainFrom", "(LSeaMill$Mill;)V"⟩
abbrev cX3_hasKind : ByteArray := prog_5_method_4_code
def yX3_hasKind : MethodName := ⟨RX3, "hasKind", "(I)Z"⟩
abbrev cX3_hasFarmer : ByteArray := prog_5_method_5_code
def yX3_hasFarmer : MethodName := ⟨RX3, "hasFarmer", "(I)Z"⟩
abbrev cX3_hasSack : ByteArray := prog_5_method_6_code
def yX3_hasSack : MethodName := ⟨RX3, "hasSack", "(I)Z"⟩
abbrev cX3_changeSetting : ByteArray := prog_5_method_7_code
def yX3_changeSetting : MethodName := ⟨RX3, "changeSetting", "(II)I"⟩
abbrev cX3_changeLeak : ByteArray := prog_5_method_8_code
def yX3_changeLeak : MethodName := ⟨RX3, "changeLeak", "(II)I"⟩
abbrev cX3_changeLock : ByteArray := prog_5_method_9_code
def yX3_changeLock : MethodName := ⟨RX3, "changeLock", "(I)I"⟩
abbrev cX3_changeOpening : ByteArray := prog_5_method_10_code
def yX3_changeOpening : MethodName := ⟨RX3, "changeOpening", "(I)I"⟩
abbrev cX3_addKind : ByteArray := prog_5_method_11_code
def yX3_addKind : MethodName := ⟨RX3, "addKind", "(III)I"⟩
abbrev cX3_addFarmer : ByteArray := prog_5_method_12_code
def yX3_addFarmer : MethodName := ⟨RX3, "addFarmer", "()I"⟩
abbrev cX3_addSack : ByteArray := prog_5_method_13_code
def yX3_addSack : MethodName := ⟨RX3, "addSack", "(III)I"⟩
abbrev cX3_withdrawSack : ByteArray := prog_5_method_14_code
def yX3_withdrawSack : MethodName := ⟨RX3, "withdrawSack", "(I)I"⟩
abbrev cX3_fetchSack : ByteArray := prog_5_method_15_code
def yX3_fetchSack : MethodName := ⟨RX3, "fetchSack", "(I)I"⟩
abbrev cX3_tellKind : ByteArray := prog_5_method_16_code
def yX3_tellKind : MethodName := ⟨RX3, "tellKind", "(II)I"⟩
abbrev cX3_tellFarmer : ByteArray := prog_5_method_17_code
def yX3_tellFarmer : MethodName := ⟨RX3, "tellFarmer", "(II)I"⟩
abbrev cX3_sumOf : ByteArray := prog_5_method_18_code
def yX3_sumOf : MethodName := ⟨RX3, "sumOf", "(III)I"⟩
abbrev cX3_sacksBrought : ByteArray := prog_5_method_19_code
def yX3_sacksBrought : MethodName := ⟨RX3, "sacksBrought", "(II)I"⟩
abbrev cX3_sacksInStage : ByteArray := prog_5_method_20_code
def yX3_sacksInStage : MethodName := ⟨RX3, "sacksInStage", "(I)I"⟩
abbrev cX3_placeInQueue : ByteArray := prog_5_method_21_code
def yX3_placeInQueue : MethodName := ⟨RX3, "placeInQueue", "(I)I"⟩
abbrev cX3_sackAtPlace : ByteArray := prog_5_method_22_code
def yX3_sackAtPlace : MethodName := ⟨RX3, "sackAtPlace", "(I)I"⟩
abbrev cX3_firstOfQueue : ByteArray := prog_5_method_23_code
def yX3_firstOfQueue : MethodName := ⟨RX3, "firstOfQueue", "()I"⟩
abbrev cX3_waitsAheadOf : ByteArray := prog_5_method_24_code
def yX3_waitsAheadOf : MethodName := ⟨RX3, "waitsAheadOf", "(II)Z"⟩
abbrev cX3_rankInQueue : ByteArray := prog_5_method_25_code
def yX3_rankInQueue : MethodName := ⟨RX3, "rankInQueue", "(LSeaMill$Sack;)I"⟩
abbrev cX3_addPence : ByteArray := prog_5_method_26_code
def yX3_addPence : MethodName := ⟨RX3, "addPence", "(II)I"⟩
abbrev cX3_putInPledge : ByteArray := prog_5_method_27_code
def yX3_putInPledge : MethodName := ⟨RX3, "putInPledge", "(II)I"⟩
abbrev cX3_loanFor : ByteArray := prog_5_method_28_code
def yX3_loanFor : MethodName := ⟨RX3, "loanFor", "(LSeaMill$Sack;I)I"⟩
abbrev cX3_debtOf : ByteArray := prog_5_method_29_code
def yX3_debtOf : MethodName := ⟨RX3, "debtOf", "(LSeaMill$Sack;)I"⟩
abbrev cX3_redeemPledge : ByteArray := prog_5_method_30_code
def yX3_redeemPledge : MethodName := ⟨RX3, "redeemPledge", "(I)I"⟩
abbrev cX3_sackOfPledge : ByteArray := prog_5_method_31_code
def yX3_sackOfPledge : MethodName := ⟨RX3, "sackOfPledge", "(I)I"⟩
abbrev cX3_pledgesAheadOf : ByteArray := prog_5_method_32_code
def yX3_pledgesAheadOf : MethodName := ⟨RX3, "pledgesAheadOf", "(I)I"⟩
abbrev cX3_tellPledge : ByteArray := prog_5_method_33_code
def yX3_tellPledge : MethodName := ⟨RX3, "tellPledge", "(II)I"⟩
abbrev cX3_pledgesOf : ByteArray := prog_5_method_34_code
def yX3_pledgesOf : MethodName := ⟨RX3, "pledgesOf", "(I)I"⟩
abbrev cX3_dropOldPledges : ByteArray := prog_5_method_35_code
def yX3_dropOldPledges : MethodName := ⟨RX3, "dropOldPledges", "()V"⟩
abbrev cX3_today : ByteArray := prog_5_method_36_code
def yX3_today : MethodName := ⟨RX3, "today", "()I"⟩
abbrev cX3_letPass : ByteArray := prog_5_method_37_code
def yX3_letPass : MethodName := ⟨RX3, "letPass", "(I)I"⟩
abbrev cX3_step : ByteArray := prog_5_method_38_code
def yX3_step : MethodName := ⟨RX3, "step", "()V"⟩
abbrev cX3_seaAt : ByteArray := prog_5_method_39_code
def yX3_seaAt : MethodName := ⟨RX3, "seaAt", "(I)I"⟩
abbrev cX3_stepsToHigh : ByteArray := prog_5_method_40_code
def yX3_stepsToHigh : MethodName := ⟨RX3, "stepsToHigh", "()I"⟩
abbrev cX3_level : ByteArray := prog_5_method_41_code
def yX3_level : MethodName := ⟨RX3, "level", "()I"⟩
abbrev cX3_flowIn : ByteArray := prog_5_method_42_code
def yX3_flowIn : MethodName := ⟨RX3, "flowIn", "(I)V"⟩
abbrev cX3_leakOut : ByteArray := prog_5_method_43_code
def yX3_leakOut : MethodName := ⟨RX3, "leakOut", "(I)V"⟩
abbrev cX3_grind : ByteArray := prog_5_method_44_code
def yX3_grind : MethodName := ⟨RX3, "grind", "(I)V"⟩
abbrev cX3_putOnStones : ByteArray := prog_5_method_45_code
def yX3_putOnStones : MethodName := ⟨RX3, "putOnStones", "(I)V"⟩
abbrev cX3_grindSack : ByteArray := prog_5_method_46_code
def yX3_grindSack : MethodName := ⟨RX3, "grindSack", "(LSeaMill$Sack;I)V"⟩
abbrev cX3_tellPond : ByteArray := prog_5_method_47_code
def yX3_tellPond : MethodName := ⟨RX3, "tellPond", "(I)I"⟩
abbrev cX3_countOf : ByteArray := prog_5_method_48_code
def yX3_countOf : MethodName := ⟨RX3, "countOf", "(I)I"⟩
def RX4 : String := "SeaMill$Orders"
def TX4 : u_T := fun k => match k with
  | 0 => ("SeaMill$Orders", "text", "[C", true)
  | 1 => ("SeaMill$Orders", "numbers", "[I", true)
  | 2 => ("SeaMill$Orders", "length", "I", false)
  | 3 => ("SeaMill$Orders", "position", "I", false)
  | 4 => ("SeaMill$Orders", "start", "I", false)
  | 5 => ("SeaMill$Orders", "reason", "I", false)
  | _ => ("SeaMill$Orders", "done", "I", false)
def tyX4 : Nat → FieldType := fun k => match k with
  | 0 => .array .char
  | 1 => .array .int
  | 2 => .int
  | 3 => .int
  | 4 => .int
  | 5 => .int
  | _ => .int
theorem nmX4 : ∀ a, a < 7 → ∀ b, b < 7 → a ≠ b → (TX4 a).2.1 ≠ (TX4 b).2.1 := by decide +kernel
theorem tyX4_ok : ∀ k, k < 7 → parseFieldDescriptor (TX4 k).2.2.1 = some (tyX4 k) := by decide +kernel
abbrev cX4_init : ByteArray := prog_6_method_1_code
def yX4_init : MethodName := ⟨RX4, "<init>", "()V"⟩
abbrev cX4_append : ByteArray := prog_6_method_2_code
def yX4_append : MethodName := ⟨RX4, "append", "(C)I"⟩
abbrev cX4_empty : ByteArray := prog_6_method_3_code
def yX4_empty : MethodName := ⟨RX4, "empty", "()I"⟩
abbrev cX4_doAll : ByteArray := prog_6_method_4_code
def yX4_doAll : MethodName := ⟨RX4, "doAll", "(LSeaMill$Mill;)V"⟩
abbrev cX4_readOrder : ByteArray := prog_6_method_5_code
def yX4_readOrder : MethodName := ⟨RX4, "readOrder", "()Z"⟩
abbrev cX4_numbersAfter : ByteArray := prog_6_method_6_code
def yX4_numbersAfter : MethodName := ⟨RX4, "numbersAfter", "(C)I"⟩
abbrev cX4_readSign : ByteArray := prog_6_method_7_code
def yX4_readSign : MethodName := ⟨RX4, "readSign", "(C)Z"⟩
abbrev cX4_readNumber : ByteArray := prog_6_method_8_code
def yX4_readNumber : MethodName := ⟨RX4, "readNumber", "(I)Z"⟩
abbrev cX4_doOrder : ByteArray := prog_6_method_9_code
def yX4_doOrder : MethodName := ⟨RX4, "doOrder", "(LSeaMill$Mill;)I"⟩
abbrev cX4_isKnown : ByteArray := prog_6_method_10_code
def yX4_isKnown : MethodName := ⟨RX4, "isKnown", "(LSeaMill$Mill;)Z"⟩
abbrev cX4_answerOf : ByteArray := prog_6_method_11_code
def yX4_answerOf : MethodName := ⟨RX4, "answerOf", "(LSeaMill$Mill;)I"⟩
def RX5 : String := "SeaMill$Sack"
def TX5 : u_T := fun k => match k with
  | 0 => ("SeaMill$Sack", "farmer", "I", false)
  | 1 => ("SeaMill$Sack", "kind", "I", false)
  | 2 => ("SeaMill$Sack", "hardness", "I", false)
  | 3 => ("SeaMill$Sack", "dustPercent", "I", false)
  | 4 => ("SeaMill$Sack", "price", "I", false)
  | 5 => ("SeaMill$Sack", "pounds", "I", false)
  | 6 => ("SeaMill$Sack", "stage", "I", false)
  | 7 => ("SeaMill$Sack", "ground", "I", false)
  | 8 => ("SeaMill$Sack", "tollPercent", "I", false)
  | 9 => ("SeaMill$Sack", "toll", "I", false)
  | 10 => ("SeaMill$Sack", "dust", "I", false)
  | 11 => ("SeaMill$Sack", "pledged", "I", false)
  | 12 => ("SeaMill$Sack", "lent", "I", false)
  | 13 => ("SeaMill$Sack", "pledgeDay", "I", false)
  | 14 => ("SeaMill$Sack", "lastDay", "I", false)
  | 15 => ("SeaMill$Sack", "fallen", "I", false)
  | _ => ("SeaMill$Sack", "fetched", "I", false)
def tyX5 : Nat → FieldType := fun k => match k with
  | 0 => .int
  | 1 => .int
  | 2 => .int
  | 3 => .int
  | 4 => .int
  | 5 => .int
  | 6 => .int
  | 7 => .int
  | 8 => .int
  | 9 => .int
  | 10 => .int
  | 11 => .int
  | 12 => .int
  | 13 => .int
  | 14 => .int
  | 15 => .int
  | _ => .int
theorem nmX5 : ∀ a, a < 17 → ∀ b, b < 17 → a ≠ b → (TX5 a).2.1 ≠ (TX5 b).2.1 := by decide +kernel
theorem tyX5_ok : ∀ k, k < 17 → parseFieldDescriptor (TX5 k).2.2.1 = some (tyX5 k) := by decide +kernel
abbrev cX5_init : ByteArray := prog_7_method_1_code
def yX5_init : MethodName := ⟨RX5, "<init>", "()V"⟩
abbrev cX5_takeFrom : ByteArray := prog_7_method_2_code
def yX5_takeFrom : MethodName := ⟨RX5, "takeFrom", "(LSeaMill$Sack;)V"⟩
abbrev cX5_begin : ByteArray := prog_7_method_3_code
def yX5_begin : MethodName := ⟨RX5, "begin", "(IILSeaMill$Kind;I)V"⟩
abbrev cX5_addGround : ByteArray := prog_7_method_4_code
def yX5_addGround : MethodName := ⟨RX5, "addGround", "(I)V"⟩
abbrev cX5_endPledge : ByteArray := prog_7_method_5_code
def yX5_endPledge : MethodName := ⟨RX5, "endPledge", "()V"⟩
abbrev cX5_fall : ByteArray := prog_7_method_6_code
def yX5_fall : MethodName := ⟨RX5, "fall", "()V"⟩
abbrev cX5_hasPledge : ByteArray := prog_7_method_7_code
def yX5_hasPledge : MethodName := ⟨RX5, "hasPledge", "()Z"⟩
abbrev cX5_grain : ByteArray := prog_7_method_8_code
def yX5_grain : MethodName := ⟨RX5, "grain", "()I"⟩
abbrev cX5_flour : ByteArray := prog_7_method_9_code
def yX5_flour : MethodName := ⟨RX5, "flour", "()I"⟩
abbrev cX5_isOf : ByteArray := prog_7_method_10_code
def yX5_isOf : MethodName := ⟨RX5, "isOf", "(II)Z"⟩
abbrev cX5_tell : ByteArray := prog_7_method_11_code
def yX5_tell : MethodName := ⟨RX5, "tell", "(I)I"⟩
def RX6 : String := "SeaMill"
def TX6 : u_T := fun k => match k with
  | 0 => ("SeaMill", "mill", "LSeaMill$Mill;", true)
  | 1 => ("SeaMill", "trial", "LSeaMill$Mill;", true)
  | 2 => ("SeaMill", "history", "LSeaMill$History;", true)
  | _ => ("SeaMill", "orders", "LSeaMill$Orders;", true)
def tyX6 : Nat → FieldType := fun k => match k with
  | 0 => .object "SeaMill$Mill"
  | 1 => .object "SeaMill$Mill"
  | 2 => .object "SeaMill$History"
  | _ => .object "SeaMill$Orders"
theorem nmX6 : ∀ a, a < 4 → ∀ b, b < 4 → a ≠ b → (TX6 a).2.1 ≠ (TX6 b).2.1 := by decide +kernel
theorem tyX6_ok : ∀ k, k < 4 → parseFieldDescriptor (TX6 k).2.2.1 = some (tyX6 k) := by decide +kernel
abbrev cX6_init : ByteArray := prog_1_method_1_code
def yX6_init : MethodName := ⟨RX6, "<init>", "()V"⟩
abbrev cX6_set : ByteArray := prog_1_method_2_code
def yX6_set : MethodName := ⟨RX6, "set", "(II)I"⟩
abbrev cX6_leak : ByteArray := prog_1_method_3_code
def yX6_leak : MethodName := ⟨RX6, "leak", "(II)I"⟩
abbrev cX6_lock : ByteArray := prog_1_method_4_code
def yX6_lock : MethodName := ⟨RX6, "lock", "(I)I"⟩
abbrev cX6_gate : ByteArray := prog_1_method_5_code
def yX6_gate : MethodName := ⟨RX6, "gate", "(I)I"⟩
abbrev cX6_kind : ByteArray := prog_1_method_6_code
def yX6_kind : MethodName := ⟨RX6, "kind", "(III)I"⟩
abbrev cX6_farmer : ByteArray := prog_1_method_7_code
def yX6_farmer : MethodName := ⟨RX6, "farmer", "()I"⟩
abbrev cX6_bring : ByteArray := prog_1_method_8_code
def yX6_bring : MethodName := ⟨RX6, "bring", "(III)I"⟩
abbrev cX6_withdraw : ByteArray := prog_1_method_9_code
def yX6_withdraw : MethodName := ⟨RX6, "withdraw", "(I)I"⟩
abbrev cX6_fetch : ByteArray := prog_1_method_10_code
def yX6_fetch : MethodName := ⟨RX6, "fetch", "(I)I"⟩
abbrev cX6_kindOf : ByteArray := prog_1_method_11_code
def yX6_kindOf : MethodName := ⟨RX6, "kindOf", "(II)I"⟩
abbrev cX6_farmerOf : ByteArray := prog_1_method_12_code
def yX6_farmerOf : MethodName := ⟨RX6, "farmerOf", "(II)I"⟩
abbrev cX6_sackOf : ByteArray := prog_1_method_13_code
def yX6_sackOf : MethodName := ⟨RX6, "sackOf", "(II)I"⟩
abbrev cX6_queueAt : ByteArray := prog_1_method_14_code
def yX6_queueAt : MethodName := ⟨RX6, "queueAt", "(I)I"⟩
abbrev cX6_account : ByteArray := prog_1_method_15_code
def yX6_account : MethodName := ⟨RX6, "account", "(III)I"⟩
abbrev cX6_earn : ByteArray := prog_1_method_16_code
def yX6_earn : MethodName := ⟨RX6, "earn", "(II)I"⟩
abbrev cX6_pledge : ByteArray := prog_1_method_17_code
def yX6_pledge : MethodName := ⟨RX6, "pledge", "(II)I"⟩
abbrev cX6_owed : ByteArray := prog_1_method_18_code
def yX6_owed : MethodName := ⟨RX6, "owed", "(I)I"⟩
abbrev cX6_redeem : ByteArray := prog_1_method_19_code
def yX6_redeem : MethodName := ⟨RX6, "redeem", "(I)I"⟩
abbrev cX6_pledgeAt : ByteArray := prog_1_method_20_code
def yX6_pledgeAt : MethodName := ⟨RX6, "pledgeAt", "(II)I"⟩
abbrev cX6_pass : ByteArray := prog_1_method_21_code
def yX6_pass : MethodName := ⟨RX6, "pass", "(I)I"⟩
abbrev cX6_seaIn : ByteArray := prog_1_method_22_code
def yX6_seaIn : MethodName := ⟨RX6, "seaIn", "(I)I"⟩
abbrev cX6_nextHigh : ByteArray := prog_1_method_23_code
def yX6_nextHigh : MethodName := ⟨RX6, "nextHigh", "()I"⟩
abbrev cX6_pond : ByteArray := prog_1_method_24_code
def yX6_pond : MethodName := ⟨RX6, "pond", "(I)I"⟩
abbrev cX6_foresee : ByteArray := prog_1_method_25_code
def yX6_foresee : MethodName := ⟨RX6, "foresee", "(I)I"⟩
abbrev cX6_bestGate : ByteArray := prog_1_method_26_code
def yX6_bestGate : MethodName := ⟨RX6, "bestGate", "(I)I"⟩
abbrev cX6_count : ByteArray := prog_1_method_27_code
def yX6_count : MethodName := ⟨RX6, "count", "(I)I"⟩
abbrev cX6_undo : ByteArray := prog_1_method_28_code
def yX6_undo : MethodName := ⟨RX6, "undo", "()I"⟩
abbrev cX6_type : ByteArray := prog_1_method_29_code
def yX6_type : MethodName := ⟨RX6, "type", "(I)I"⟩
abbrev cX6_clearText : ByteArray := prog_1_method_30_code
def yX6_clearText : MethodName := ⟨RX6, "clearText", "()I"⟩
abbrev cX6_fault : ByteArray := prog_1_method_31_code
def yX6_fault : MethodName := ⟨RX6, "fault", "(I)I"⟩
abbrev cX6_play : ByteArray := prog_1_method_32_code
def yX6_play : MethodName := ⟨RX6, "play", "()I"⟩
abbrev cX6_groundBy : ByteArray := prog_1_method_33_code
def yX6_groundBy : MethodName := ⟨RX6, "groundBy", "(II)I"⟩
abbrev cX6_within : ByteArray := prog_1_method_34_code
def yX6_within : MethodName := ⟨RX6, "within", "(III)Z"⟩
abbrev cX6_quotient : ByteArray := prog_1_method_35_code
def yX6_quotient : MethodName := ⟨RX6, "quotient", "(II)I"⟩
def RX7 : String := "SeaMillModel"
def TX7 : u_T := fun k => match k with
  | 0 => ("SeaMillModel", "d", "[I", true)
  | 1 => ("SeaMillModel", "was", "[I", true)
  | 2 => ("SeaMillModel", "aside", "[I", true)
  | 3 => ("SeaMillModel", "begun", "[I", true)
  | 4 => ("SeaMillModel", "states", "I", false)
  | 5 => ("SeaMillModel", "text", "[C", true)
  | 6 => ("SeaMillModel", "typed", "I", false)
  | 7 => ("SeaMillModel", "at", "I", false)
  | 8 => ("SeaMillModel", "reason", "I", false)
  | _ => ("SeaMillModel", "got", "[I", true)
def tyX7 : Nat → FieldType := fun k => match k with
  | 0 => .array .int
  | 1 => .array .int
  | 2 => .array .int
  | 3 => .array .int
  | 4 => .int
  | 5 => .array .char
  | 6 => .int
  | 7 => .int
  | 8 => .int
  | _ => .array .int
theorem nmX7 : ∀ a, a < 10 → ∀ b, b < 10 → a ≠ b → (TX7 a).2.1 ≠ (TX7 b).2.1 := by decide +kernel
theorem tyX7_ok : ∀ k, k < 10 → parseFieldDescriptor (TX7 k).2.2.1 = some (tyX7 k) := by decide +kernel
abbrev cX7_init : ByteArray := prog_9_method_1_code
def yX7_init : MethodName := ⟨RX7, "<init>", "()V"⟩
abbrev cX7_in : ByteArray := prog_9_method_2_code
def yX7_in : MethodName := ⟨RX7, "in", "(III)Z"⟩
abbrev cX7_isKind : ByteArray := prog_9_method_3_code
def yX7_isKind : MethodName := ⟨RX7, "isKind", "(I)Z"⟩
abbrev cX7_isFarmer : ByteArray := prog_9_method_4_code
def yX7_isFarmer : MethodName := ⟨RX7, "isFarmer", "(I)Z"⟩
abbrev cX7_isSack : ByteArray := prog_9_method_5_code
def yX7_isSack : MethodName := ⟨RX7, "isSack", "(I)Z"⟩
abbrev cX7_of : ByteArray := prog_9_method_6_code
def yX7_of : MethodName := ⟨RX7, "of", "(II)I"⟩
abbrev cX7_put : ByteArray := prog_9_method_7_code
def yX7_put : MethodName := ⟨RX7, "put", "(III)V"⟩
abbrev cX7_hardness : ByteArray := prog_9_method_8_code
def yX7_hardness : MethodName := ⟨RX7, "hardness", "(I)I"⟩
abbrev cX7_keeps : ByteArray := prog_9_method_9_code
def yX7_keeps : MethodName := ⟨RX7, "keeps", "()V"⟩
abbrev cX7_acted : ByteArray := prog_9_method_10_code
def yX7_acted : MethodName := ⟨RX7, "acted", "(I)I"⟩
abbrev cX7_lays : ByteArray := prog_9_method_11_code
def yX7_lays : MethodName := ⟨RX7, "lays", "()V"⟩
abbrev cX7_restores : ByteArray := prog_9_method_12_code
def yX7_restores : MethodName := ⟨RX7, "restores", "()V"⟩
abbrev cX7_toll : ByteArray := prog_9_method_13_code
def yX7_toll : MethodName := ⟨RX7, "toll", "(I)I"⟩
abbrev cX7_dust : ByteArray := prog_9_method_14_code
def yX7_dust : MethodName := ⟨RX7, "dust", "(I)I"⟩
abbrev cX7_grain : ByteArray := prog_9_method_15_code
def yX7_grain : MethodName := ⟨RX7, "grain", "(I)I"⟩
abbrev cX7_flour : ByteArray := prog_9_method_16_code
def yX7_flour : MethodName := ⟨RX7, "flour", "(I)I"⟩
abbrev cX7_came : ByteArray := prog_9_method_17_code
def yX7_came : MethodName := ⟨RX7, "came", "(I)I"⟩
abbrev cX7_weight : ByteArray := prog_9_method_18_code
def yX7_weight : MethodName := ⟨RX7, "weight", "(I)I"⟩
abbrev cX7_placeOf : ByteArray := prog_9_method_19_code
def yX7_placeOf : MethodName := ⟨RX7, "placeOf", "(I)I"⟩
abbrev cX7_waitingAt : ByteArray := prog_9_method_20_code
def yX7_waitingAt : MethodName := ⟨RX7, "waitingAt", "(I)I"⟩
abbrev cX7_sacksIn : ByteArray := prog_9_method_21_code
def yX7_sacksIn : MethodName := ⟨RX7, "sacksIn", "(I)I"⟩
abbrev cX7_sea : ByteArray := prog_9_method_22_code
def yX7_sea : MethodName := ⟨RX7, "sea", "(I)I"⟩
abbrev cX7_head : ByteArray := prog_9_method_23_code
def yX7_head : MethodName := ⟨RX7, "head", "()I"⟩
abbrev cX7_falls : ByteArray := prog_9_method_24_code
def yX7_falls : MethodName := ⟨RX7, "falls", "()V"⟩
abbrev cX7_flows : ByteArray := prog_9_method_25_code
def yX7_flows : MethodName := ⟨RX7, "flows", "()V"⟩
abbrev cX7_comes : ByteArray := prog_9_method_26_code
def yX7_comes : MethodName := ⟨RX7, "comes", "(I)V"⟩
abbrev cX7_grinds : ByteArray := prog_9_method_27_code
def yX7_grinds : MethodName := ⟨RX7, "grinds", "()V"⟩
abbrev cX7_goes : ByteArray := prog_9_method_28_code
def yX7_goes : MethodName := ⟨RX7, "goes", "()V"⟩
abbrev cX7_gates : ByteArray := prog_9_method_29_code
def yX7_gates : MethodName := ⟨RX7, "gates", "(I)I"⟩
abbrev cX7_brings : ByteArray := prog_9_method_30_code
def yX7_brings : MethodName := ⟨RX7, "brings", "(III)I"⟩
abbrev cX7_fetches : ByteArray := prog_9_method_31_code
def yX7_fetches : MethodName := ⟨RX7, "fetches", "(I)I"⟩
abbrev cX7_product : ByteArray := prog_9_method_32_code
def yX7_product : MethodName := ⟨RX7, "product", "(II)I"⟩
abbrev cX7_pledges : ByteArray := prog_9_method_33_code
def yX7_pledges : MethodName := ⟨RX7, "pledges", "(II)I"⟩
abbrev cX7_owes : ByteArray := prog_9_method_34_code
def yX7_owes : MethodName := ⟨RX7, "owes", "(I)I"⟩
abbrev cX7_redeems : ByteArray := prog_9_method_35_code
def yX7_redeems : MethodName := ⟨RX7, "redeems", "(I)I"⟩
abbrev cX7_low : ByteArray := prog_9_method_36_code
def yX7_low : MethodName := ⟨RX7, "low", "(I)I"⟩
abbrev cX7_high : ByteArray := prog_9_method_37_code
def yX7_high : MethodName := ⟨RX7, "high", "(I)I"⟩
abbrev cX7_set : ByteArray := prog_9_method_38_code
def yX7_set : MethodName := ⟨RX7, "set", "(II)I"⟩
abbrev cX7_leak : ByteArray := prog_9_method_39_code
def yX7_leak : MethodName := ⟨RX7, "leak", "(II)I"⟩
abbrev cX7_lock : ByteArray := prog_9_method_40_code
def yX7_lock : MethodName := ⟨RX7, "lock", "(I)I"⟩
abbrev cX7_gate : ByteArray := prog_9_method_41_code
def yX7_gate : MethodName := ⟨RX7, "gate", "(I)I"⟩
abbrev cX7_kind : ByteArray := prog_9_method_42_code
def yX7_kind : MethodName := ⟨RX7, "kind", "(III)I"⟩
abbrev cX7_farmer : ByteArray := prog_9_method_43_code
def yX7_farmer : MethodName := ⟨RX7, "farmer", "()I"⟩
abbrev cX7_bring : ByteArray := prog_9_method_44_code
def yX7_bring : MethodName := ⟨RX7, "bring", "(III)I"⟩
abbrev cX7_withdraw : ByteArray := prog_9_method_45_code
def yX7_withdraw : MethodName := ⟨RX7, "withdraw", "(I)I"⟩
abbrev cX7_fetch : ByteArray := prog_9_method_46_code
def yX7_fetch : MethodName := ⟨RX7, "fetch", "(I)I"⟩
abbrev cX7_told : ByteArray := prog_9_method_47_code
def yX7_told : MethodName := ⟨RX7, "told", "(II)I"⟩
abbrev cX7_sum : ByteArray := prog_9_method_48_code
def yX7_sum : MethodName := ⟨RX7, "sum", "(III)I"⟩
abbrev cX7_many : ByteArray := prog_9_method_49_code
def yX7_many : MethodName := ⟨RX7, "many", "(IIZ)I"⟩
abbrev cX7_kindOf : ByteArray := prog_9_method_50_code
def yX7_kindOf : MethodName := ⟨RX7, "kindOf", "(II)I"⟩
abbrev cX7_farmerOf : ByteArray := prog_9_method_51_code
def yX7_farmerOf : MethodName := ⟨RX7, "farmerOf", "(II)I"⟩
abbrev cX7_sackOf : ByteArray := prog_9_method_52_code
def yX7_sackOf : MethodName := ⟨RX7, "sackOf", "(II)I"⟩
abbrev cX7_queueAt : ByteArray := prog_9_method_53_code
def yX7_queueAt : MethodName := ⟨RX7, "queueAt", "(I)I"⟩
abbrev cX7_account : ByteArray := prog_9_method_54_code
def yX7_account : MethodName := ⟨RX7, "account", "(III)I"⟩
abbrev cX7_earn : ByteArray := prog_9_method_55_code
def yX7_earn : MethodName := ⟨RX7, "earn", "(II)I"⟩
abbrev cX7_pledge : ByteArray := prog_9_method_56_code
def yX7_pledge : MethodName := ⟨RX7, "pledge", "(II)I"⟩
abbrev cX7_owed : ByteArray := prog_9_method_57_code
def yX7_owed : MethodName := ⟨RX7, "owed", "(I)I"⟩
abbrev cX7_redeem : ByteArray := prog_9_method_58_code
def yX7_redeem : MethodName := ⟨RX7, "redeem", "(I)I"⟩
abbrev cX7_ahead : ByteArray := prog_9_method_59_code
def yX7_ahead : MethodName := ⟨RX7, "ahead", "(I)I"⟩
abbrev cX7_pledgeAt : ByteArray := prog_9_method_60_code
def yX7_pledgeAt : MethodName := ⟨RX7, "pledgeAt", "(II)I"⟩
abbrev cX7_pass : ByteArray := prog_9_method_61_code
def yX7_pass : MethodName := ⟨RX7, "pass", "(I)I"⟩
abbrev cX7_seaIn : ByteArray := prog_9_method_62_code
def yX7_seaIn : MethodName := ⟨RX7, "seaIn", "(I)I"⟩
abbrev cX7_nextHigh : ByteArray := prog_9_method_63_code
def yX7_nextHigh : MethodName := ⟨RX7, "nextHigh", "()I"⟩
abbrev cX7_pond : ByteArray := prog_9_method_64_code
def yX7_pond : MethodName := ⟨RX7, "pond", "(I)I"⟩
abbrev cX7_foresee : ByteArray := prog_9_method_65_code
def yX7_foresee : MethodName := ⟨RX7, "foresee", "(I)I"⟩
abbrev cX7_bestGate : ByteArray := prog_9_method_66_code
def yX7_bestGate : MethodName := ⟨RX7, "bestGate", "(I)I"⟩
abbrev cX7_count : ByteArray := prog_9_method_67_code
def yX7_count : MethodName := ⟨RX7, "count", "(I)I"⟩
abbrev cX7_undo : ByteArray := prog_9_method_68_code
def yX7_undo : MethodName := ⟨RX7, "undo", "()I"⟩
abbrev cX7_type : ByteArray := prog_9_method_69_code
def yX7_type : MethodName := ⟨RX7, "type", "(I)I"⟩
abbrev cX7_clearText : ByteArray := prog_9_method_70_code
def yX7_clearText : MethodName := ⟨RX7, "clearText", "()I"⟩
abbrev cX7_passes : ByteArray := prog_9_method_71_code
def yX7_passes : MethodName := ⟨RX7, "passes", "(C)Z"⟩
abbrev cX7_takes : ByteArray := prog_9_method_72_code
def yX7_takes : MethodName := ⟨RX7, "takes", "(I)Z"⟩
abbrev cX7_numbers : ByteArray := prog_9_method_73_code
def yX7_numbers : MethodName := ⟨RX7, "numbers", "(C)I"⟩
abbrev cX7_readsForm : ByteArray := prog_9_method_74_code
def yX7_readsForm : MethodName := ⟨RX7, "readsForm", "(I)Z"⟩
abbrev cX7_does : ByteArray := prog_9_method_75_code
def yX7_does : MethodName := ⟨RX7, "does", "(C)I"⟩
abbrev cX7_doesNext : ByteArray := prog_9_method_76_code
def yX7_doesNext : MethodName := ⟨RX7, "doesNext", "()I"⟩
abbrev cX7_faulty : ByteArray := prog_9_method_77_code
def yX7_faulty : MethodName := ⟨RX7, "faulty", "()I"⟩
abbrev cX7_fault : ByteArray := prog_9_method_78_code
def yX7_fault : MethodName := ⟨RX7, "fault", "(I)I"⟩
abbrev cX7_play : ByteArray := prog_9_method_79_code
def yX7_play : MethodName := ⟨RX7, "play", "()I"⟩
def RJx8e188 : String := "java/lang/Cloneable"
def TJx8e188 : u_T := fun k => match k with
  | _ => ("", "", "", false)
def tyJx8e188 : Nat → FieldType := fun k => match k with
  | _ => .int
def RJ9 : String := "java/lang/Math"
def TJ9 : u_T := fun k => match k with
  | _ => ("", "", "", false)
def tyJ9 : Nat → FieldType := fun k => match k with
  | _ => .int
abbrev cJ9_abs_0f7a4 : ByteArray := prog_11_method_59_code
def yJ9_abs_0f7a4 : MethodName := ⟨RJ9, "abs", "(I)I"⟩
abbrev cJ9_max_7cf53 : ByteArray := prog_11_method_65_code
def yJ9_max_7cf53 : MethodName := ⟨RJ9, "max", "(II)I"⟩
abbrev cJ9_min_7cf53 : ByteArray := prog_11_method_69_code
def yJ9_min_7cf53 : MethodName := ⟨RJ9, "min", "(II)I"⟩
def RJ10 : String := "java/lang/System"
def TJ10 : u_T := fun k => match k with
  | _ => ("", "", "", false)
def tyJ10 : Nat → FieldType := fun k => match k with
  | _ => .int
def RL : String := "SeaMillLaw"
abbrev cL_law : ByteArray := code
def yL_law : MethodName := ⟨RL, "law", "([I)Z"⟩
abbrev vwCl : List vw_C := [(RX0, TX0, 2), (RX1, TX1, 3), (RX2, TX2, 3), (RX3, TX3, 18), (RX4, TX4, 7), (RX5, TX5, 17), (RX6, TX6, 4), (RX7, TX7, 10)]
end
section
theorem dX0_init_0 : decode cX0_init 0 = .ok (.aload_n 0, 1) := by decide +kernel
theorem dX0_init_1 : decode cX0_init 1 = .ok (.invokespecial 1, 3) := by decide +kernel
theorem dX0_init_4 : decode cX0_init 4 = .ok (.return_, 1) := by decide +kernel
theorem dX0_takeFrom_0 : decode cX0_takeFrom 0 = .ok (.aload_n 0, 1) := by decide +kernel
theorem dX0_takeFrom_1 : decode cX0_takeFrom 1 = .ok (.aload_n 1, 1) := by decide +kernel
theorem dX0_takeFrom_2 : decode cX0_takeFrom 2 = .ok (.getfield 7, 3) := by decide +kernel
theorem dX0_takeFrom_5 : decode cX0_takeFrom 5 = .ok (.putfield 7, 3) := by decide +kernel
theorem dX0_takeFrom_8 : decode cX0_takeFrom 8 = .ok (.aload_n 0, 1) := by decide +kernel
theorem dX0_takeFrom_9 : decode cX0_takeFrom 9 = .ok (.aload_n 1, 1) := by decide +kernel
theorem dX0_takeFrom_10 : decode cX0_takeFrom 10 = .ok (.getfield 13, 3) := by decide +kernel
theorem dX0_takeFrom_13 : decode cX0_takeFrom 13 = .ok (.putfield 13, 3) := by decide +kernel
theorem dX0_takeFrom_16 : decode cX0_takeFrom 16 = .ok (.return_, 1) := by decide +kernel
theorem dX1_init_0 : decode cX1_init 0 = .ok (.aload_n 0, 1) := by decide +kernel
theorem dX1_init_1 : decode cX1_init 1 = .ok (.invokespecial 3, 3) := by decide +kernel
theorem dX1_init_4 : decode cX1_init 4 = .ok (.aload_n 0, 1) := by decide +kernel
theorem dX1_init_5 : decode cX1_init 5 = .ok (.iconst 5, 1) := by decide +kernel
theorem dX1_init_6 : decode cX1_init 6 = .ok (.anewarray 9, 3) := by decide +kernel
theorem dX1_init_9 : decode cX1_init 9 = .ok (.putfield 11, 3) := by decide +kernel
theorem dX1_init_12 : decode cX1_init 12 = .ok (.iconst 0, 1) := by decide +kernel
theorem dX1_init_13 : decode cX1_init 13 = .ok (.istore_n 1, 1) := by decide +kernel
theorem dX1_init_14 : decode cX1_init 14 = .ok (.iload_n 1, 1) := by decide +kernel
theorem dX1_init_15 : decode cX1_init 15 = .ok (.iconst 4, 1) := by decide +kernel
theorem dX1_init_16 : decode cX1_init 16 = .ok (.if_icmp .gt 22, 3) := by decide +kernel
theorem dX1_init_19 : decode cX1_init 19 = .ok (.aload_n 0, 1) := by decide +kernel
theorem dX1_init_20 : decode cX1_init 20 = .ok (.getfield 11, 3) := by decide +kernel
theorem dX1_init_23 : decode cX1_init 23 = .ok (.iload_n 1, 1) := by decide +kernel
theorem dX1_init_24 : decode cX1_init 24 = .ok (.new 9, 3) := by decide +kernel
theorem dX1_init_27 : decode cX1_init 27 = .ok (.dup, 1) := by decide +kernel
theorem dX1_init_28 : decode cX1_init 28 = .ok (.invokespecial 17, 3) := by decide +kernel
theorem dX1_init_31 : decode cX1_init 31 = .ok (.aastore, 1) := by decide +kernel
theorem dX1_init_32 : decode cX1_init 32 = .ok (.iinc 1 1, 3) := by decide +kernel
theorem dX1_init_35 : decode cX1_init 35 = .ok (.goto (-21), 3) := by decide +kernel
theorem dX1_init_38 : decode cX1_init 38 = .ok (.return_, 1) := by decide +kernel
theorem dX1_hold_0 : decode cX1_hold 0 = .ok (.aload_n 0, 1) := by decide +kernel
theorem dX1_hold_1 : decode cX1_hold 1 = .ok (.getfield 11, 3) := by decide +kernel
theorem dX1_hold_4 : decode cX1_hold 4 = .ok (.aload_n 0, 1) := by decide +kernel
theorem dX1_hold_5 : decode cX1_hold 5 = .ok (.getfield 18, 3) := by decide +kernel
theorem dX1_hold_8 : decode cX1_hold 8 = .ok (.aload_n 0, 1) := by decide +kernel
theorem dX1_hold_9 : decode cX1_hold 9 = .ok (.getfield 22, 3) := by decide +kernel
theorem dX1_hold_12 : decode cX1_hold 12 = .ok (.iadd, 1) := by decide +kernel
theorem dX1_hold_13 : decode cX1_hold 13 = .ok (.iconst 5, 1) := by decide +kernel
theorem dX1_hold_14 : decode cX1_hold 14 = .ok (.irem, 1) := by decide +kernel
theorem dX1_hold_15 : decode cX1_hold 15 = .ok (.aaload, 1) := by decide +kernel
theorem dX1_hold_16 : decode cX1_hold 16 = .ok (.aload_n 1, 1) := by decide +kernel
theorem dX1_hold_17 : decode cX1_hold 17 = .ok (.invokevirtual 25, 3) := by decide +kernel
theorem dX1_hold_20 : decode cX1_hold 20 = .ok (.return_, 1) := by decide +kernel
theorem dX1_keepIfDone_0 : decode cX1_keepIfDone 0 = .ok (.iload_n 1, 1) := by decide +kernel
theorem dX1_keepIfDone_1 : decode cX1_keepIfDone 1 = .ok (.ifCond .lt 36, 3) := by decide +kernel
theorem dX1_keepIfDone_4 : decode cX1_keepIfDone 4 = .ok (.aload_n 0, 1) := by decide +kernel
theorem dX1_keepIfDone_5 : decode cX1_keepIfDone 5 = .ok (.getfield 22, 3) := by decide +kernel
theorem dX1_keepIfDone_8 : decode cX1_keepIfDone 8 = .ok (.iconst 4, 1) := by decide +kernel
theorem dX1_keepIfDone_9 : decode cX1_keepIfDone 9 = .ok (.if_icmp .ge 16, 3) := by decide +kernel
theorem dX1_keepIfDone_12 : decode cX1_keepIfDone 12 = .ok (.aload_n 0, 1) := by decide +kernel
theorem dX1_keepIfDone_13 : decode cX1_keepIfDone 13 = .ok (.dup, 1) := by decide +kernel
theorem dX1_keepIfDone_14 : decode cX1_keepIfDone 14 = .ok (.getfield 22, 3) := by decide +kernel
theorem dX1_keepIfDone_17 : decode cX1_keepIfDone 17 = .ok (.iconst 1, 1) := by decide +kernel
theorem dX1_keepIfDone_18 : decode cX1_keepIfDone 18 = .ok (.iadd, 1) := by decide +kernel
theorem dX1_keepIfDone_19 : decode cX1_keepIfDone 19 = .ok (.putfield 22, 3) := by decide +kernel
theorem dX1_keepIfDone_22 : decode cX1_keepIfDone 22 = .ok (.goto 15, 3) := by decide +kernel
theorem dX1_keepIfDone_25 : decode cX1_keepIfDone 25 = .ok (.aload_n 0, 1) := by decide +kernel
theorem dX1_keepIfDone_26 : decode cX1_keepIfDone 26 = .ok (.aload_n 0, 1) := by decide +kernel
theorem dX1_keepIfDone_27 : decode cX1_keepIfDone 27 = .ok (.getfield 18, 3) := by decide +kernel
theorem dX1_keepIfDone_30 : decode cX1_keepIfDone 30 = .ok (.iconst 1, 1) := by decide +kernel
theorem dX1_keepIfDone_31 : decode cX1_keepIfDone 31 = .ok (.iadd, 1) := by decide +kernel
theorem dX1_keepIfDone_32 : decode cX1_keepIfDone 32 = .ok (.iconst 5, 1) := by decide +kernel
theorem dX1_keepIfDone_33 : decode cX1_keepIfDone 33 = .ok (.irem, 1) := by decide +kernel
theorem dX1_keepIfDone_34 : decode cX1_keepIfDone 34 = .ok (.putfield 18, 3) := by decide +kernel
theorem dX1_keepIfDone_37 : decode cX1_keepIfDone 37 = .ok (.iload_n 1, 1) := by decide +kernel
theorem dX1_keepIfDone_38 : decode cX1_keepIfDone 38 = .ok (.ireturn, 1) := by decide +kernel
theorem dX1_restore_0 : decode cX1_restore 0 = .ok (.aload_n 0, 1) := by decide +kernel
theorem dX1_restore_1 : decode cX1_restore 1 = .ok (.getfield 22, 3) := by decide +kernel
theorem dX1_restore_4 : decode cX1_restore 4 = .ok (.ifCond .ne 6, 3) := by decide +kernel
theorem dX1_restore_7 : decode cX1_restore 7 = .ok (.ldc 29, 2) := by decide +kernel
theorem dX1_restore_9 : decode cX1_restore 9 = .ok (.ireturn, 1) := by decide +kernel
theorem dX1_restore_10 : decode cX1_restore 10 = .ok (.aload_n 0, 1) := by decide +kernel
theorem dX1_restore_11 : decode cX1_restore 11 = .ok (.dup, 1) := by decide +kernel
theorem dX1_restore_12 : decode cX1_restore 12 = .ok (.getfield 22, 3) := by decide +kernel
theorem dX1_restore_15 : decode cX1_restore 15 = .ok (.iconst 1, 1) := by decide +kernel
theorem dX1_restore_16 : decode cX1_restore 16 = .ok (.isub, 1) := by decide +kernel
theorem dX1_restore_17 : decode cX1_restore 17 = .ok (.putfield 22, 3) := by decide +kernel
theorem dX1_restore_20 : decode cX1_restore 20 = .ok (.aload_n 1, 1) := by decide +kernel
theorem dX1_restore_21 : decode cX1_restore 21 = .ok (.aload_n 0, 1) := by decide +kernel
theorem dX1_restore_22 : decode cX1_restore 22 = .ok (.getfield 11, 3) := by decide +kernel
theorem dX1_restore_25 : decode cX1_restore 25 = .ok (.aload_n 0, 1) := by decide +kernel
theorem dX1_restore_26 : decode cX1_restore 26 = .ok (.getfield 18, 3) := by decide +kernel
theorem dX1_restore_29 : decode cX1_restore 29 = .ok (.aload_n 0, 1) := by decide +kernel
theorem dX1_restore_30 : decode cX1_restore 30 = .ok (.getfield 22, 3) := by decide +kernel
theorem dX1_restore_33 : decode cX1_restore 33 = .ok (.iadd, 1) := by decide +kernel
theorem dX1_restore_34 : decode cX1_restore 34 = .ok (.iconst 5, 1) := by decide +kernel
theorem dX1_restore_35 : decode cX1_restore 35 = .ok (.irem, 1) := by decide +kernel
theorem dX1_restore_36 : decode cX1_restore 36 = .ok (.aaload, 1) := by decide +kernel
theorem dX1_restore_37 : decode cX1_restore 37 = .ok (.invokevirtual 25, 3) := by decide +kernel
theorem dX1_restore_40 : decode cX1_restore 40 = .ok (.aload_n 0, 1) := by decide +kernel
theorem dX1_restore_41 : decode cX1_restore 41 = .ok (.getfield 22, 3) := by decide +kernel
theorem dX1_restore_44 : decode cX1_restore 44 = .ok (.ireturn, 1) := by decide +kernel
theorem dX2_init_0 : decode cX2_init 0 = .ok (.aload_n 0, 1) := by decide +kernel
theorem dX2_init_1 : decode cX2_init 1 = .ok (.invokespecial 1, 3) := by decide +kernel
theorem dX2_init_4 : decode cX2_init 4 = .ok (.return_, 1) := by decide +kernel
theorem dX2_takeFrom_0 : decode cX2_takeFrom 0 = .ok (.aload_n 0, 1) := by decide +kernel
theorem dX2_takeFrom_1 : decode cX2_takeFrom 1 = .ok (.aload_n 1, 1) := by decide +kernel
theorem dX2_takeFrom_2 : decode cX2_takeFrom 2 = .ok (.getfield 7, 3) := by decide +kernel
theorem dX2_takeFrom_5 : decode cX2_takeFrom 5 = .ok (.putfield 7, 3) := by decide +kernel
theorem dX2_takeFrom_8 : decode cX2_takeFrom 8 = .ok (.aload_n 0, 1) := by decide +kernel
theorem dX2_takeFrom_9 : decode cX2_takeFrom 9 = .ok (.aload_n 1, 1) := by decide +kernel
theorem dX2_takeFrom_10 : decode cX2_takeFrom 10 = .ok (.getfield 13, 3) := by decide +kernel
theorem dX2_takeFrom_13 : decode cX2_takeFrom 13 = .ok (.putfield 13, 3) := by decide +kernel
theorem dX2_takeFrom_16 : decode cX2_takeFrom 16 = .ok (.aload_n 0, 1) := by decide +kernel
theorem dX2_takeFrom_17 : decode cX2_takeFrom 17 = .ok (.aload_n 1, 1) := by decide +kernel
theorem dX2_takeFrom_18 : decode cX2_takeFrom 18 = .ok (.getfield 16, 3) := by decide +kernel
theorem dX2_takeFrom_21 : decode cX2_takeFrom 21 = .ok (.putfield 16, 3) := by decide +kernel
theorem dX2_takeFrom_24 : decode cX2_takeFrom 24 = .ok (.return_, 1) := by decide +kernel
theorem dX3_init_0 : decode cX3_init 0 = .ok (.aload_n 0, 1) := by decide +kernel
theorem dX3_init_1 : decode cX3_init 1 = .ok (.invokespecial 3, 3) := by decide +kernel
theorem dX3_init_4 : decode cX3_init 4 = .ok (.aload_n 0, 1) := by decide +kernel
theorem dX3_init_5 : decode cX3_init 5 = .ok (.getstatic 9, 3) := by decide +kernel
theorem dX3_init_8 : decode cX3_init 8 = .ok (.invokevirtual 13, 3) := by decide +kernel
theorem dX3_init_11 : decode cX3_init 11 = .ok (.checkcast 14, 3) := by decide +kernel
theorem dX3_init_14 : decode cX3_init 14 = .ok (.putfield 18, 3) := by decide +kernel
theorem dX3_init_17 : decode cX3_init 17 = .ok (.aload_n 0, 1) := by decide +kernel
theorem dX3_init_18 : decode cX3_init 18 = .ok (.getstatic 23, 3) := by decide +kernel
theorem dX3_init_21 : decode cX3_init 21 = .ok (.invokevirtual 13, 3) := by decide +kernel
theorem dX3_init_24 : decode cX3_init 24 = .ok (.checkcast 14, 3) := by decide +kernel
theorem dX3_init_27 : decode cX3_init 27 = .ok (.putfield 26, 3) := by decide +kernel
theorem dX3_init_30 : decode cX3_init 30 = .ok (.aload_n 0, 1) := by decide +kernel
theorem dX3_init_31 : decode cX3_init 31 = .ok (.bipush 6, 2) := by decide +kernel
theorem dX3_init_33 : decode cX3_init 33 = .ok (.anewarray 29, 3) := by decide +kernel
theorem dX3_init_36 : decode cX3_init 36 = .ok (.putfield 31, 3) := by decide +kernel
theorem dX3_init_39 : decode cX3_init 39 = .ok (.aload_n 0, 1) := by decide +kernel
theorem dX3_init_40 : decode cX3_init 40 = .ok (.bipush 8, 2) := by decide +kernel
theorem dX3_init_42 : decode cX3_init 42 = .ok (.anewarray 35, 3) := by decide +kernel
theorem dX3_init_45 : decode cX3_init 45 = .ok (.putfield 37, 3) := by decide +kernel
theorem dX3_init_48 : decode cX3_init 48 = .ok (.aload_n 0, 1) := by decide +kernel
theorem dX3_init_49 : decode cX3_init 49 = .ok (.bipush 24, 2) := by decide +kernel
theorem dX3_init_51 : decode cX3_init 51 = .ok (.anewarray 41, 3) := by decide +kernel
theorem dX3_init_54 : decode cX3_init 54 = .ok (.putfield 43, 3) := by decide +kernel
theorem dX3_init_57 : decode cX3_init 57 = .ok (.aload_n 0, 1) := by decide +kernel
theorem dX3_init_58 : decode cX3_init 58 = .ok (.iconst (-1), 1) := by decide +kernel
theorem dX3_init_59 : decode cX3_init 59 = .ok (.putfield 47, 3) := by decide +kernel
theorem dX3_init_62 : decode cX3_init 62 = .ok (.aload_n 0, 1) := by decide +kernel
theorem dX3_init_63 : decode cX3_init 63 = .ok (.iconst (-1), 1) := by decide +kernel
theorem dX3_init_64 : decode cX3_init 64 = .ok (.putfield 51, 3) := by decide +kernel
theorem dX3_init_67 : decode cX3_init 67 = .ok (.iconst 0, 1) := by decide +kernel
theorem dX3_init_68 : decode cX3_init 68 = .ok (.istore_n 1, 1) := by decide +kernel
theorem dX3_init_69 : decode cX3_init 69 = .ok (.iload_n 1, 1) := by decide +kernel
theorem dX3_init_70 : decode cX3_init 70 = .ok (.bipush 6, 2) := by decide +kernel
theorem dX3_init_72 : decode cX3_init 72 = .ok (.if_icmp .ge 22, 3) := by decide +kernel
theorem dX3_init_75 : decode cX3_init 75 = .ok (.aload_n 0, 1) := by decide +kernel
theorem dX3_init_76 : decode cX3_init 76 = .ok (.getfield 31, 3) := by decide +kernel
theorem dX3_init_79 : decode cX3_init 79 = .ok (.iload_n 1, 1) := by decide +kernel
theorem dX3_init_80 : decode cX3_init 80 = .ok (.new 29, 3) := by decide +kernel
theorem dX3_init_83 : decode cX3_init 83 = .ok (.dup, 1) := by decide +kernel
theorem dX3_init_84 : decode cX3_init 84 = .ok (.invokespecial 54, 3) := by decide +kernel
theorem dX3_init_87 : decode cX3_init 87 = .ok (.aastore, 1) := by decide +kernel
theorem dX3_init_88 : decode cX3_init 88 = .ok (.iinc 1 1, 3) := by decide +kernel
theorem dX3_init_91 : decode cX3_init 91 = .ok (.goto (-22), 3) := by decide +kernel
theorem dX3_init_94 : decode cX3_init 94 = .ok (.iconst 0, 1) := by decide +kernel
theorem dX3_init_95 : decode cX3_init 95 = .ok (.istore_n 1, 1) := by decide +kernel
theorem dX3_init_96 : decode cX3_init 96 = .ok (.iload_n 1, 1) := by decide +kernel
theorem dX3_init_97 : decode cX3_init 97 = .ok (.bipush 8, 2) := by decide +kernel
theorem dX3_init_99 : decode cX3_init 99 = .ok (.if_icmp .ge 22, 3) := by decide +kernel
theorem dX3_init_102 : decode cX3_init 102 = .ok (.aload_n 0, 1) := by decide +kernel
theorem dX3_init_103 : decode cX3_init 103 = .ok (.getfield 37, 3) := by decide +kernel
theorem dX3_init_106 : decode cX3_init 106 = .ok (.iload_n 1, 1) := by decide +kernel
theorem dX3_init_107 : decode cX3_init 107 = .ok (.new 35, 3) := by decide +kernel
theorem dX3_init_110 : decode cX3_init 110 = .ok (.dup, 1) := by decide +kernel
theorem dX3_init_111 : decode cX3_init 111 = .ok (.invokespecial 55, 3) := by decide +kernel
theorem dX3_init_114 : decode cX3_init 114 = .ok (.aastore, 1) := by decide +kernel
theorem dX3_init_115 : decode cX3_init 115 = .ok (.iinc 1 1, 3) := by decide +kernel
theorem dX3_init_118 : decode cX3_init 118 = .ok (.goto (-22), 3) := by decide +kernel
theorem dX3_init_121 : decode cX3_init 121 = .ok (.iconst 0, 1) := by decide +kernel
theorem dX3_init_122 : decode cX3_init 122 = .ok (.istore_n 1, 1) := by decide +kernel
theorem dX3_init_123 : decode cX3_init 123 = .ok (.iload_n 1, 1) := by decide +kernel
theorem dX3_init_124 : decode cX3_init 124 = .ok (.bipush 24, 2) := by decide +kernel
theorem dX3_init_126 : decode cX3_init 126 = .ok (.if_icmp .ge 22, 3) := by decide +kernel
theorem dX3_init_129 : decode cX3_init 129 = .ok (.aload_n 0, 1) := by decide +kernel
theorem dX3_init_130 : decode cX3_init 130 = .ok (.getfield 43, 3) := by decide +kernel
theorem dX3_init_133 : decode cX3_init 133 = .ok (.iload_n 1, 1) := by decide +kernel
theorem dX3_init_134 : decode cX3_init 134 = .ok (.new 41, 3) := by decide +kernel
theorem dX3_init_137 : decode cX3_init 137 = .ok (.dup, 1) := by decide +kernel
theorem dX3_init_138 : decode cX3_init 138 = .ok (.invokespecial 56, 3) := by decide +kernel
theorem dX3_init_141 : decode cX3_init 141 = .ok (.aastore, 1) := by decide +kernel
theorem dX3_init_142 : decode cX3_init 142 = .ok (.iinc 1 1, 3) := by decide +kernel
theorem dX3_init_145 : decode cX3_init 145 = .ok (.goto (-22), 3) := by decide +kernel
theorem dX3_init_148 : decode cX3_init 148 = .ok (.return_, 1) := by decide +kernel
theorem dX3_copyFrom_0 : decode cX3_copyFrom 0 = .ok (.aload_n 1, 1) := by decide +kernel
theorem dX3_copyFrom_1 : decode cX3_copyFrom 1 = .ok (.getfield 18, 3) := by decide +kernel
theorem dX3_copyFrom_4 : decode cX3_copyFrom 4 = .ok (.iconst 0, 1) := by decide +kernel
theorem dX3_copyFrom_5 : decode cX3_copyFrom 5 = .ok (.aload_n 0, 1) := by decide +kernel
theorem dX3_copyFrom_6 : decode cX3_copyFrom 6 = .ok (.getfield 18, 3) := by decide +kernel
theorem dX3_copyFrom_9 : decode cX3_copyFrom 9 = .ok (.iconst 0, 1) := by decide +kernel
theorem dX3_copyFrom_10 : decode cX3_copyFrom 10 = .ok (.bipush 13, 2) := by decide +kernel
theorem dX3_copyFrom_12 : decode cX3_copyFrom 12 = .ok (.invokestatic 57, 3) := by decide +kernel
theorem dX3_copyFrom_15 : decode cX3_copyFrom 15 = .ok (.aload_n 1, 1) := by decide +kernel
theorem dX3_copyFrom_16 : decode cX3_copyFrom 16 = .ok (.getfield 26, 3) := by decide +kernel
theorem dX3_copyFrom_19 : decode cX3_copyFrom 19 = .ok (.iconst 0, 1) := by decide +kernel
theorem dX3_copyFrom_20 : decode cX3_copyFrom 20 = .ok (.aload_n 0, 1) := by decide +kernel
theorem dX3_copyFrom_21 : decode cX3_copyFrom 21 = .ok (.getfield 26, 3) := by decide +kernel
theorem dX3_copyFrom_24 : decode cX3_copyFrom 24 = .ok (.iconst 0, 1) := by decide +kernel
theorem dX3_copyFrom_25 : decode cX3_copyFrom 25 = .ok (.iconst 4, 1) := by decide +kernel
theorem dX3_copyFrom_26 : decode cX3_copyFrom 26 = .ok (.invokestatic 57, 3) := by decide +kernel
theorem dX3_copyFrom_29 : decode cX3_copyFrom 29 = .ok (.aload_n 0, 1) := by decide +kernel
theorem dX3_copyFrom_30 : decode cX3_copyFrom 30 = .ok (.aload_n 1, 1) := by decide +kernel
theorem dX3_copyFrom_31 : decode cX3_copyFrom 31 = .ok (.invokevirtual 63, 3) := by decide +kernel
theorem dX3_copyFrom_34 : decode cX3_copyFrom 34 = .ok (.aload_n 0, 1) := by decide +kernel
theorem dX3_copyFrom_35 : decode cX3_copyFrom 35 = .ok (.aload_n 1, 1) := by decide +kernel
theorem dX3_copyFrom_36 : decode cX3_copyFrom 36 = .ok (.getfield 67, 3) := by decide +kernel
theorem dX3_copyFrom_39 : decode cX3_copyFrom 39 = .ok (.putfield 67, 3) := by decide +kernel
theorem dX3_copyFrom_42 : decode cX3_copyFrom 42 = .ok (.aload_n 0, 1) := by decide +kernel
theorem dX3_copyFrom_43 : decode cX3_copyFrom 43 = .ok (.aload_n 1, 1) := by decide +kernel
theorem dX3_copyFrom_44 : decode cX3_copyFrom 44 = .ok (.getfield 70, 3) := by decide +kernel
theorem dX3_copyFrom_47 : decode cX3_copyFrom 47 = .ok (.putfield 70, 3) := by decide +kernel
theorem dX3_copyFrom_50 : decode cX3_copyFrom 50 = .ok (.aload_n 0, 1) := by decide +kernel
theorem dX3_copyFrom_51 : decode cX3_copyFrom 51 = .ok (.aload_n 1, 1) := by decide +kernel
theorem dX3_copyFrom_52 : decode cX3_copyFrom 52 = .ok (.getfield 73, 3) := by decide +kernel
theorem dX3_copyFrom_55 : decode cX3_copyFrom 55 = .ok (.putfield 73, 3) := by decide +kernel
theorem dX3_copyFrom_58 : decode cX3_copyFrom 58 = .ok (.aload_n 0, 1) := by decide +kernel
theorem dX3_copyFrom_59 : decode cX3_copyFrom 59 = .ok (.aload_n 1, 1) := by decide +kernel
theorem dX3_copyFrom_60 : decode cX3_copyFrom 60 = .ok (.getfield 76, 3) := by decide +kernel
theorem dX3_copyFrom_63 : decode cX3_copyFrom 63 = .ok (.putfield 76, 3) := by decide +kernel
theorem dX3_copyFrom_66 : decode cX3_copyFrom 66 = .ok (.aload_n 0, 1) := by decide +kernel
theorem dX3_copyFrom_67 : decode cX3_copyFrom 67 = .ok (.aload_n 1, 1) := by decide +kernel
theorem dX3_copyFrom_68 : decode cX3_copyFrom 68 = .ok (.getfield 47, 3) := by decide +kernel
theorem dX3_copyFrom_71 : decode cX3_copyFrom 71 = .ok (.putfield 47, 3) := by decide +kernel
theorem dX3_copyFrom_74 : decode cX3_copyFrom 74 = .ok (.aload_n 0, 1) := by decide +kernel
theorem dX3_copyFrom_75 : decode cX3_copyFrom 75 = .ok (.aload_n 1, 1) := by decide +kernel
theorem dX3_copyFrom_76 : decode cX3_copyFrom 76 = .ok (.getfield 51, 3) := by decide +kernel
theorem dX3_copyFrom_79 : decode cX3_copyFrom 79 = .ok (.putfield 51, 3) := by decide +kernel
theorem dX3_copyFrom_82 : decode cX3_copyFrom 82 = .ok (.aload_n 0, 1) := by decide +kernel
theorem dX3_copyFrom_83 : decode cX3_copyFrom 83 = .ok (.aload_n 1, 1) := by decide +kernel
theorem dX3_copyFrom_84 : decode cX3_copyFrom 84 = .ok (.getfield 79, 3) := by decide +kernel
theorem dX3_copyFrom_87 : decode cX3_copyFrom 87 = .ok (.putfield 79, 3) := by decide +kernel
theorem dX3_copyFrom_90 : decode cX3_copyFrom 90 = .ok (.aload_n 0, 1) := by decide +kernel
theorem dX3_copyFrom_91 : decode cX3_copyFrom 91 = .ok (.aload_n 1, 1) := by decide +kernel
theorem dX3_copyFrom_92 : decode cX3_copyFrom 92 = .ok (.getfield 82, 3) := by decide +kernel
theorem dX3_copyFrom_95 : decode cX3_copyFrom 95 = .ok (.putfield 82, 3) := by decide +kernel
theorem dX3_copyFrom_98 : decode cX3_copyFrom 98 = .ok (.aload_n 0, 1) := by decide +kernel
theorem dX3_copyFrom_99 : decode cX3_copyFrom 99 = .ok (.aload_n 1, 1) := by decide +kernel
theorem dX3_copyFrom_100 : decode cX3_copyFrom 100 = .ok (.getfield 85, 3) := by decide +kernel
theorem dX3_copyFrom_103 : decode cX3_copyFrom 103 = .ok (.putfield 85, 3) := by decide +kernel
theorem dX3_copyFrom_106 : decode cX3_copyFrom 106 = .ok (.aload_n 0, 1) := by decide +kernel
theorem dX3_copyFrom_107 : decode cX3_copyFrom 107 = .ok (.aload_n 1, 1) := by decide +kernel
theorem dX3_copyFrom_108 : decode cX3_copyFrom 108 = .ok (.getfield 88, 3) := by decide +kernel
theorem dX3_copyFrom_111 : decode cX3_copyFrom 111 = .ok (.putfield 88, 3) := by decide +kernel
theorem dX3_copyFrom_114 : decode cX3_copyFrom 114 = .ok (.return_, 1) := by decide +kernel
theorem dX3_copyGrainFrom_0 : decode cX3_copyGrainFrom 0 = .ok (.aload_n 0, 1) := by decide +kernel
theorem dX3_copyGrainFrom_1 : decode cX3_copyGrainFrom 1 = .ok (.aload_n 1, 1) := by decide +kernel
theorem dX3_copyGrainFrom_2 : decode cX3_copyGrainFrom 2 = .ok (.getfield 91, 3) := by decide +kernel
theorem dX3_copyGrainFrom_5 : decode cX3_copyGrainFrom 5 = .ok (.putfield 91, 3) := by decide +kernel
theorem dX3_copyGrainFrom_8 : decode cX3_copyGrainFrom 8 = .ok (.aload_n 0, 1) := by decide +kernel
theorem dX3_copyGrainFrom_9 : decode cX3_copyGrainFrom 9 = .ok (.aload_n 1, 1) := by decide +kernel
theorem dX3_copyGrainFrom_10 : decode cX3_copyGrainFrom 10 = .ok (.getfield 94, 3) := by decide +kernel
theorem dX3_copyGrainFrom_13 : decode cX3_copyGrainFrom 13 = .ok (.putfield 94, 3) := by decide +kernel
theorem dX3_copyGrainFrom_16 : decode cX3_copyGrainFrom 16 = .ok (.aload_n 0, 1) := by decide +kernel
theorem dX3_copyGrainFrom_17 : decode cX3_copyGrainFrom 17 = .ok (.aload_n 1, 1) := by decide +kernel
theorem dX3_copyGrainFrom_18 : decode cX3_copyGrainFrom 18 = .ok (.getfield 97, 3) := by decide +kernel
theorem dX3_copyGrainFrom_21 : decode cX3_copyGrainFrom 21 = .ok (.putfield 97, 3) := by decide +kernel
theorem dX3_copyGrainFrom_24 : decode cX3_copyGrainFrom 24 = .ok (.iconst 0, 1) := by decide +kernel
theorem dX3_copyGrainFrom_25 : decode cX3_copyGrainFrom 25 = .ok (.istore_n 2, 1) := by decide +kernel
theorem dX3_copyGrainFrom_26 : decode cX3_copyGrainFrom 26 = .ok (.iload_n 2, 1) := by decide +kernel
theorem dX3_copyGrainFrom_27 : decode cX3_copyGrainFrom 27 = .ok (.aload_n 0, 1) := by decide +kernel
theorem dX3_copyGrainFrom_28 : decode cX3_copyGrainFrom 28 = .ok (.getfield 91, 3) := by decide +kernel
theorem dX3_copyGrainFrom_31 : decode cX3_copyGrainFrom 31 = .ok (.if_icmp .ge 24, 3) := by decide +kernel
theorem dX3_copyGrainFrom_34 : decode cX3_copyGrainFrom 34 = .ok (.aload_n 0, 1) := by decide +kernel
theorem dX3_copyGrainFrom_35 : decode cX3_copyGrainFrom 35 = .ok (.getfield 31, 3) := by decide +kernel
theorem dX3_copyGrainFrom_38 : decode cX3_copyGrainFrom 38 = .ok (.iload_n 2, 1) := by decide +kernel
theorem dX3_copyGrainFrom_39 : decode cX3_copyGrainFrom 39 = .ok (.aaload, 1) := by decide +kernel
theorem dX3_copyGrainFrom_40 : decode cX3_copyGrainFrom 40 = .ok (.aload_n 1, 1) := by decide +kernel
theorem dX3_copyGrainFrom_41 : decode cX3_copyGrainFrom 41 = .ok (.getfield 31, 3) := by decide +kernel
theorem dX3_copyGrainFrom_44 : decode cX3_copyGrainFrom 44 = .ok (.iload_n 2, 1) := by decide +kernel
theorem dX3_copyGrainFrom_45 : decode cX3_copyGrainFrom 45 = .ok (.aaload, 1) := by decide +kernel
theorem dX3_copyGrainFrom_46 : decode cX3_copyGrainFrom 46 = .ok (.invokevirtual 100, 3) := by decide +kernel
theorem dX3_copyGrainFrom_49 : decode cX3_copyGrainFrom 49 = .ok (.iinc 2 1, 3) := by decide +kernel
theorem dX3_copyGrainFrom_52 : decode cX3_copyGrainFrom 52 = .ok (.goto (-26), 3) := by decide +kernel
theorem dX3_copyGrainFrom_55 : decode cX3_copyGrainFrom 55 = .ok (.iconst 0, 1) := by decide +kernel
theorem dX3_copyGrainFrom_56 : decode cX3_copyGrainFrom 56 = .ok (.istore_n 2, 1) := by decide +kernel
theorem dX3_copyGrainFrom_57 : decode cX3_copyGrainFrom 57 = .ok (.iload_n 2, 1) := by decide +kernel
theorem dX3_copyGrainFrom_58 : decode cX3_copyGrainFrom 58 = .ok (.aload_n 0, 1) := by decide +kernel
theorem dX3_copyGrainFrom_59 : decode cX3_copyGrainFrom 59 = .ok (.getfield 94, 3) := by decide +kernel
theorem dX3_copyGrainFrom_62 : decode cX3_copyGrainFrom 62 = .ok (.if_icmp .ge 24, 3) := by decide +kernel
theorem dX3_copyGrainFrom_65 : decode cX3_copyGrainFrom 65 = .ok (.aload_n 0, 1) := by decide +kernel
theorem dX3_copyGrainFrom_66 : decode cX3_copyGrainFrom 66 = .ok (.getfield 37, 3) := by decide +kernel
theorem dX3_copyGrainFrom_69 : decode cX3_copyGrainFrom 69 = .ok (.iload_n 2, 1) := by decide +kernel
theorem dX3_copyGrainFrom_70 : decode cX3_copyGrainFrom 70 = .ok (.aaload, 1) := by decide +kernel
theorem dX3_copyGrainFrom_71 : decode cX3_copyGrainFrom 71 = .ok (.aload_n 1, 1) := by decide +kernel
theorem dX3_copyGrainFrom_72 : decode cX3_copyGrainFrom 72 = .ok (.getfield 37, 3) := by decide +kernel
theorem dX3_copyGrainFrom_75 : decode cX3_copyGrainFrom 75 = .ok (.iload_n 2, 1) := by decide +kernel
theorem dX3_copyGrainFrom_76 : decode cX3_copyGrainFrom 76 = .ok (.aaload, 1) := by decide +kernel
theorem dX3_copyGrainFrom_77 : decode cX3_copyGrainFrom 77 = .ok (.invokevirtual 104, 3) := by decide +kernel
theorem dX3_copyGrainFrom_80 : decode cX3_copyGrainFrom 80 = .ok (.iinc 2 1, 3) := by decide +kernel
theorem dX3_copyGrainFrom_83 : decode cX3_copyGrainFrom 83 = .ok (.goto (-26), 3) := by decide +kernel
theorem dX3_copyGrainFrom_86 : decode cX3_copyGrainFrom 86 = .ok (.iconst 0, 1) := by decide +kernel
theorem dX3_copyGrainFrom_87 : decode cX3_copyGrainFrom 87 = .ok (.istore_n 2, 1) := by decide +kernel
theorem dX3_copyGrainFrom_88 : decode cX3_copyGrainFrom 88 = .ok (.iload_n 2, 1) := by decide +kernel
theorem dX3_copyGrainFrom_89 : decode cX3_copyGrainFrom 89 = .ok (.aload_n 0, 1) := by decide +kernel
theorem dX3_copyGrainFrom_90 : decode cX3_copyGrainFrom 90 = .ok (.getfield 97, 3) := by decide +kernel
theorem dX3_copyGrainFrom_93 : decode cX3_copyGrainFrom 93 = .ok (.if_icmp .ge 24, 3) := by decide +kernel
theorem dX3_copyGrainFrom_96 : decode cX3_copyGrainFrom 96 = .ok (.aload_n 0, 1) := by decide +kernel
theorem dX3_copyGrainFrom_97 : decode cX3_copyGrainFrom 97 = .ok (.getfield 43, 3) := by decide +kernel
theorem dX3_copyGrainFrom_100 : decode cX3_copyGrainFrom 100 = .ok (.iload_n 2, 1) := by decide +kernel
theorem dX3_copyGrainFrom_101 : decode cX3_copyGrainFrom 101 = .ok (.aaload, 1) := by decide +kernel
theorem dX3_copyGrainFrom_102 : decode cX3_copyGrainFrom 102 = .ok (.aload_n 1, 1) := by decide +kernel
theorem dX3_copyGrainFrom_103 : decode cX3_copyGrainFrom 103 = .ok (.getfield 43, 3) := by decide +kernel
theorem dX3_copyGrainFrom_106 : decode cX3_copyGrainFrom 106 = .ok (.iload_n 2, 1) := by decide +kernel
theorem dX3_copyGrainFrom_107 : decode cX3_copyGrainFrom 107 = .ok (.aaload, 1) := by decide +kernel
theorem dX3_copyGrainFrom_108 : decode cX3_copyGrainFrom 108 = .ok (.invokevirtual 107, 3) := by decide +kernel
theorem dX3_copyGrainFrom_111 : decode cX3_copyGrainFrom 111 = .ok (.iinc 2 1, 3) := by decide +kernel
theorem dX3_copyGrainFrom_114 : decode cX3_copyGrainFrom 114 = .ok (.goto (-26), 3) := by decide +kernel
theorem dX3_copyGrainFrom_117 : decode cX3_copyGrainFrom 117 = .ok (.return_, 1) := by decide +kernel
theorem dX3_hasKind_0 : decode cX3_hasKind 0 = .ok (.iload_n 1, 1) := by decide +kernel
theorem dX3_hasKind_1 : decode cX3_hasKind 1 = .ok (.ifCond .lt 15, 3) := by decide +kernel
theorem dX3_hasKind_4 : decode cX3_hasKind 4 = .ok (.iload_n 1, 1) := by decide +kernel
theorem dX3_hasKind_5 : decode cX3_hasKind 5 = .ok (.aload_n 0, 1) := by decide +kernel
theorem dX3_hasKind_6 : decode cX3_hasKind 6 = .ok (.getfield 91, 3) := by decide +kernel
theorem dX3_hasKind_9 : decode cX3_hasKind 9 = .ok (.if_icmp .ge 7, 3) := by decide +kernel
theorem dX3_hasKind_12 : decode cX3_hasKind 12 = .ok (.iconst 1, 1) := by decide +kernel
theorem dX3_hasKind_13 : decode cX3_hasKind 13 = .ok (.goto 4, 3) := by decide +kernel
theorem dX3_hasKind_16 : decode cX3_hasKind 16 = .ok (.iconst 0, 1) := by decide +kernel
theorem dX3_hasKind_17 : decode cX3_hasKind 17 = .ok (.ireturn, 1) := by decide +kernel
theorem dX3_hasFarmer_0 : decode cX3_hasFarmer 0 = .ok (.iload_n 1, 1) := by decide +kernel
theorem dX3_hasFarmer_1 : decode cX3_hasFarmer 1 = .ok (.ifCond .lt 15, 3) := by decide +kernel
theorem dX3_hasFarmer_4 : decode cX3_hasFarmer 4 = .ok (.iload_n 1, 1) := by decide +kernel
theorem dX3_hasFarmer_5 : decode cX3_hasFarmer 5 = .ok (.aload_n 0, 1) := by decide +kernel
theorem dX3_hasFarmer_6 : decode cX3_hasFarmer 6 = .ok (.getfield 94, 3) := by decide +kernel
theorem dX3_hasFarmer_9 : decode cX3_hasFarmer 9 = .ok (.if_icmp .ge 7, 3) := by decide +kernel
theorem dX3_hasFarmer_12 : decode cX3_hasFarmer 12 = .ok (.iconst 1, 1) := by decide +kernel
theorem dX3_hasFarmer_13 : decode cX3_hasFarmer 13 = .ok (.goto 4, 3) := by decide +kernel
theorem dX3_hasFarmer_16 : decode cX3_hasFarmer 16 = .ok (.iconst 0, 1) := by decide +kernel
theorem dX3_hasFarmer_17 : decode cX3_hasFarmer 17 = .ok (.ireturn, 1) := by decide +kernel
theorem dX3_hasSack_0 : decode cX3_hasSack 0 = .ok (.iload_n 1, 1) := by decide +kernel
theorem dX3_hasSack_1 : decode cX3_hasSack 1 = .ok (.ifCond .lt 15, 3) := by decide +kernel
theorem dX3_hasSack_4 : decode cX3_hasSack 4 = .ok (.iload_n 1, 1) := by decide +kernel
theorem dX3_hasSack_5 : decode cX3_hasSack 5 = .ok (.aload_n 0, 1) := by decide +kernel
theorem dX3_hasSack_6 : decode cX3_hasSack 6 = .ok (.getfield 97, 3) := by decide +kernel
theorem dX3_hasSack_9 : decode cX3_hasSack 9 = .ok (.if_icmp .ge 7, 3) := by decide +kernel
theorem dX3_hasSack_12 : decode cX3_hasSack 12 = .ok (.iconst 1, 1) := by decide +kernel
theorem dX3_hasSack_13 : decode cX3_hasSack 13 = .ok (.goto 4, 3) := by decide +kernel
theorem dX3_hasSack_16 : decode cX3_hasSack 16 = .ok (.iconst 0, 1) := by decide +kernel
theorem dX3_hasSack_17 : decode cX3_hasSack 17 = .ok (.ireturn, 1) := by decide +kernel
theorem dX3_changeSetting_0 : decode cX3_changeSetting 0 = .ok (.iload_n 1, 1) := by decide +kernel
theorem dX3_changeSetting_1 : decode cX3_changeSetting 1 = .ok (.iconst 0, 1) := by decide +kernel
theorem dX3_changeSetting_2 : decode cX3_changeSetting 2 = .ok (.bipush 12, 2) := by decide +kernel
theorem dX3_changeSetting_4 : decode cX3_changeSetting 4 = .ok (.invokestatic 110, 3) := by decide +kernel
theorem dX3_changeSetting_7 : decode cX3_changeSetting 7 = .ok (.ifCond .eq 20, 3) := by decide +kernel
theorem dX3_changeSetting_10 : decode cX3_changeSetting 10 = .ok (.iload_n 2, 1) := by decide +kernel
theorem dX3_changeSetting_11 : decode cX3_changeSetting 11 = .ok (.getstatic 114, 3) := by decide +kernel
theorem dX3_changeSetting_14 : decode cX3_changeSetting 14 = .ok (.iload_n 1, 1) := by decide +kernel
theorem dX3_changeSetting_15 : decode cX3_changeSetting 15 = .ok (.iaload, 1) := by decide +kernel
theorem dX3_changeSetting_16 : decode cX3_changeSetting 16 = .ok (.getstatic 117, 3) := by decide +kernel
theorem dX3_changeSetting_19 : decode cX3_changeSetting 19 = .ok (.iload_n 1, 1) := by decide +kernel
theorem dX3_changeSetting_20 : decode cX3_changeSetting 20 = .ok (.iaload, 1) := by decide +kernel
theorem dX3_changeSetting_21 : decode cX3_changeSetting 21 = .ok (.invokestatic 110, 3) := by decide +kernel
theorem dX3_changeSetting_24 : decode cX3_changeSetting 24 = .ok (.ifCond .ne 6, 3) := by decide +kernel
theorem dX3_changeSetting_27 : decode cX3_changeSetting 27 = .ok (.ldc 120, 2) := by decide +kernel
theorem dX3_changeSetting_29 : decode cX3_changeSetting 29 = .ok (.ireturn, 1) := by decide +kernel
theorem dX3_changeSetting_30 : decode cX3_changeSetting 30 = .ok (.aload_n 0, 1) := by decide +kernel
theorem dX3_changeSetting_31 : decode cX3_changeSetting 31 = .ok (.getfield 18, 3) := by decide +kernel
theorem dX3_changeSetting_34 : decode cX3_changeSetting 34 = .ok (.iload_n 1, 1) := by decide +kernel
theorem dX3_changeSetting_35 : decode cX3_changeSetting 35 = .ok (.iaload, 1) := by decide +kernel
theorem dX3_changeSetting_36 : decode cX3_changeSetting 36 = .ok (.istore_n 3, 1) := by decide +kernel
theorem dX3_changeSetting_37 : decode cX3_changeSetting 37 = .ok (.aload_n 0, 1) := by decide +kernel
theorem dX3_changeSetting_38 : decode cX3_changeSetting 38 = .ok (.getfield 18, 3) := by decide +kernel
theorem dX3_changeSetting_41 : decode cX3_changeSetting 41 = .ok (.iload_n 1, 1) := by decide +kernel
theorem dX3_changeSetting_42 : decode cX3_changeSetting 42 = .ok (.iload_n 2, 1) := by decide +kernel
theorem dX3_changeSetting_43 : decode cX3_changeSetting 43 = .ok (.iastore, 1) := by decide +kernel
theorem dX3_changeSetting_44 : decode cX3_changeSetting 44 = .ok (.iload_n 3, 1) := by decide +kernel
theorem dX3_changeSetting_45 : decode cX3_changeSetting 45 = .ok (.ireturn, 1) := by decide +kernel
theorem dX3_changeLeak_0 : decode cX3_changeLeak 0 = .ok (.iload_n 1, 1) := by decide +kernel
theorem dX3_changeLeak_1 : decode cX3_changeLeak 1 = .ok (.iconst 0, 1) := by decide +kernel
theorem dX3_changeLeak_2 : decode cX3_changeLeak 2 = .ok (.iconst 3, 1) := by decide +kernel
theorem dX3_changeLeak_3 : decode cX3_changeLeak 3 = .ok (.invokestatic 110, 3) := by decide +kernel
theorem dX3_changeLeak_6 : decode cX3_changeLeak 6 = .ok (.ifCond .eq 13, 3) := by decide +kernel
theorem dX3_changeLeak_9 : decode cX3_changeLeak 9 = .ok (.iload_n 2, 1) := by decide +kernel
theorem dX3_changeLeak_10 : decode cX3_changeLeak 10 = .ok (.iconst 0, 1) := by decide +kernel
theorem dX3_changeLeak_11 : decode cX3_changeLeak 11 = .ok (.bipush 20, 2) := by decide +kernel
theorem dX3_changeLeak_13 : decode cX3_changeLeak 13 = .ok (.invokestatic 110, 3) := by decide +kernel
theorem dX3_changeLeak_16 : decode cX3_changeLeak 16 = .ok (.ifCond .ne 6, 3) := by decide +kernel
theorem dX3_changeLeak_19 : decode cX3_changeLeak 19 = .ok (.ldc 120, 2) := by decide +kernel
theorem dX3_changeLeak_21 : decode cX3_changeLeak 21 = .ok (.ireturn, 1) := by decide +kernel
theorem dX3_changeLeak_22 : decode cX3_changeLeak 22 = .ok (.aload_n 0, 1) := by decide +kernel
theorem dX3_changeLeak_23 : decode cX3_changeLeak 23 = .ok (.getfield 26, 3) := by decide +kernel
theorem dX3_changeLeak_26 : decode cX3_changeLeak 26 = .ok (.iload_n 1, 1) := by decide +kernel
theorem dX3_changeLeak_27 : decode cX3_changeLeak 27 = .ok (.iaload, 1) := by decide +kernel
theorem dX3_changeLeak_28 : decode cX3_changeLeak 28 = .ok (.istore_n 3, 1) := by decide +kernel
theorem dX3_changeLeak_29 : decode cX3_changeLeak 29 = .ok (.aload_n 0, 1) := by decide +kernel
theorem dX3_changeLeak_30 : decode cX3_changeLeak 30 = .ok (.getfield 26, 3) := by decide +kernel
theorem dX3_changeLeak_33 : decode cX3_changeLeak 33 = .ok (.iload_n 1, 1) := by decide +kernel
theorem dX3_changeLeak_34 : decode cX3_changeLeak 34 = .ok (.iload_n 2, 1) := by decide +kernel
theorem dX3_changeLeak_35 : decode cX3_changeLeak 35 = .ok (.iastore, 1) := by decide +kernel
theorem dX3_changeLeak_36 : decode cX3_changeLeak 36 = .ok (.iload_n 3, 1) := by decide +kernel
theorem dX3_changeLeak_37 : decode cX3_changeLeak 37 = .ok (.ireturn, 1) := by decide +kernel
theorem dX3_changeLock_0 : decode cX3_changeLock 0 = .ok (.iload_n 1, 1) := by decide +kernel
theorem dX3_changeLock_1 : decode cX3_changeLock 1 = .ok (.iconst 0, 1) := by decide +kernel
theorem dX3_changeLock_2 : decode cX3_changeLock 2 = .ok (.iconst 1, 1) := by decide +kernel
theorem dX3_changeLock_3 : decode cX3_changeLock 3 = .ok (.invokestatic 110, 3) := by decide +kernel
theorem dX3_changeLock_6 : decode cX3_changeLock 6 = .ok (.ifCond .ne 6, 3) := by decide +kernel
theorem dX3_changeLock_9 : decode cX3_changeLock 9 = .ok (.ldc 120, 2) := by decide +kernel
theorem dX3_changeLock_11 : decode cX3_changeLock 11 = .ok (.ireturn, 1) := by decide +kernel
theorem dX3_changeLock_12 : decode cX3_changeLock 12 = .ok (.aload_n 0, 1) := by decide +kernel
theorem dX3_changeLock_13 : decode cX3_changeLock 13 = .ok (.getfield 73, 3) := by decide +kernel
theorem dX3_changeLock_16 : decode cX3_changeLock 16 = .ok (.istore_n 2, 1) := by decide +kernel
theorem dX3_changeLock_17 : decode cX3_changeLock 17 = .ok (.aload_n 0, 1) := by decide +kernel
theorem dX3_changeLock_18 : decode cX3_changeLock 18 = .ok (.iload_n 1, 1) := by decide +kernel
theorem dX3_changeLock_19 : decode cX3_changeLock 19 = .ok (.putfield 73, 3) := by decide +kernel
theorem dX3_changeLock_22 : decode cX3_changeLock 22 = .ok (.iload_n 2, 1) := by decide +kernel
theorem dX3_changeLock_23 : decode cX3_changeLock 23 = .ok (.ireturn, 1) := by decide +kernel
theorem dX3_changeOpening_0 : decode cX3_changeOpening 0 = .ok (.iload_n 1, 1) := by decide +kernel
theorem dX3_changeOpening_1 : decode cX3_changeOpening 1 = .ok (.iconst 0, 1) := by decide +kernel
theorem dX3_changeOpening_2 : decode cX3_changeOpening 2 = .ok (.iconst 3, 1) := by decide +kernel
theorem dX3_changeOpening_3 : decode cX3_changeOpening 3 = .ok (.invokestatic 110, 3) := by decide +kernel
theorem dX3_changeOpening_6 : decode cX3_changeOpening 6 = .ok (.ifCond .ne 6, 3) := by decide +kernel
theorem dX3_changeOpening_9 : decode cX3_changeOpening 9 = .ok (.ldc 120, 2) := by decide +kernel
theorem dX3_changeOpening_11 : decode cX3_changeOpening 11 = .ok (.ireturn, 1) := by decide +kernel
theorem dX3_changeOpening_12 : decode cX3_changeOpening 12 = .ok (.aload_n 0, 1) := by decide +kernel
theorem dX3_changeOpening_13 : decode cX3_changeOpening 13 = .ok (.getfield 76, 3) := by decide +kernel
theorem dX3_changeOpening_16 : decode cX3_changeOpening 16 = .ok (.istore_n 2, 1) := by decide +kernel
theorem dX3_changeOpening_17 : decode cX3_changeOpening 17 = .ok (.aload_n 0, 1) := by decide +kernel
theorem dX3_changeOpening_18 : decode cX3_changeOpening 18 = .ok (.iload_n 1, 1) := by decide +kernel
theorem dX3_changeOpening_19 : decode cX3_changeOpening 19 = .ok (.putfield 76, 3) := by decide +kernel
theorem dX3_changeOpening_22 : decode cX3_changeOpening 22 = .ok (.iload_n 2, 1) := by decide +kernel
theorem dX3_changeOpening_23 : decode cX3_changeOpening 23 = .ok (.ireturn, 1) := by decide +kernel
theorem dX3_addKind_0 : decode cX3_addKind 0 = .ok (.iload_n 1, 1) := by decide +kernel
theorem dX3_addKind_1 : decode cX3_addKind 1 = .ok (.iconst 1, 1) := by decide +kernel
theorem dX3_addKind_2 : decode cX3_addKind 2 = .ok (.bipush 9, 2) := by decide +kernel
theorem dX3_addKind_4 : decode cX3_addKind 4 = .ok (.invokestatic 110, 3) := by decide +kernel
theorem dX3_addKind_7 : decode cX3_addKind 7 = .ok (.ifCond .eq 23, 3) := by decide +kernel
theorem dX3_addKind_10 : decode cX3_addKind 10 = .ok (.iload_n 2, 1) := by decide +kernel
theorem dX3_addKind_11 : decode cX3_addKind 11 = .ok (.iconst 0, 1) := by decide +kernel
theorem dX3_addKind_12 : decode cX3_addKind 12 = .ok (.bipush 20, 2) := by decide +kernel
theorem dX3_addKind_14 : decode cX3_addKind 14 = .ok (.invokestatic 110, 3) := by decide +kernel
theorem dX3_addKind_17 : decode cX3_addKind 17 = .ok (.ifCond .eq 13, 3) := by decide +kernel
theorem dX3_addKind_20 : decode cX3_addKind 20 = .ok (.iload_n 3, 1) := by decide +kernel
theorem dX3_addKind_21 : decode cX3_addKind 21 = .ok (.iconst 1, 1) := by decide +kernel
theorem dX3_addKind_22 : decode cX3_addKind 22 = .ok (.ldc 121, 2) := by decide +kernel
theorem dX3_addKind_24 : decode cX3_addKind 24 = .ok (.invokestatic 110, 3) := by decide +kernel
theorem dX3_addKind_27 : decode cX3_addKind 27 = .ok (.ifCond .ne 6, 3) := by decide +kernel
theorem dX3_addKind_30 : decode cX3_addKind 30 = .ok (.ldc 120, 2) := by decide +kernel
theorem dX3_addKind_32 : decode cX3_addKind 32 = .ok (.ireturn, 1) := by decide +kernel
theorem dX3_addKind_33 : decode cX3_addKind 33 = .ok (.aload_n 0, 1) := by decide +kernel
theorem dX3_addKind_34 : decode cX3_addKind 34 = .ok (.getfield 91, 3) := by decide +kernel
theorem dX3_addKind_37 : decode cX3_addKind 37 = .ok (.bipush 6, 2) := by decide +kernel
theorem dX3_addKind_39 : decode cX3_addKind 39 = .ok (.if_icmp .lt 6, 3) := by decide +kernel
theorem dX3_addKind_42 : decode cX3_addKind 42 = .ok (.ldc 122, 2) := by decide +kernel
theorem dX3_addKind_44 : decode cX3_addKind 44 = .ok (.ireturn, 1) := by decide +kernel
theorem dX3_addKind_45 : decode cX3_addKind 45 = .ok (.aload_n 0, 1) := by decide +kernel
theorem dX3_addKind_46 : decode cX3_addKind 46 = .ok (.getfield 31, 3) := by decide +kernel
theorem dX3_addKind_49 : decode cX3_addKind 49 = .ok (.aload_n 0, 1) := by decide +kernel
theorem dX3_addKind_50 : decode cX3_addKind 50 = .ok (.getfield 91, 3) := by decide +kernel
theorem dX3_addKind_53 : decode cX3_addKind 53 = .ok (.aaload, 1) := by decide +kernel
theorem dX3_addKind_54 : decode cX3_addKind 54 = .ok (.astore 4, 2) := by decide +kernel
theorem dX3_addKind_56 : decode cX3_addKind 56 = .ok (.aload 4, 2) := by decide +kernel
theorem dX3_addKind_58 : decode cX3_addKind 58 = .ok (.iload_n 1, 1) := by decide +kernel
theorem dX3_addKind_59 : decode cX3_addKind 59 = .ok (.putfield 123, 3) := by decide +kernel
theorem dX3_addKind_62 : decode cX3_addKind 62 = .ok (.aload 4, 2) := by decide +kernel
theorem dX3_addKind_64 : decode cX3_addKind 64 = .ok (.iload_n 2, 1) := by decide +kernel
theorem dX3_addKind_65 : decode cX3_addKind 65 = .ok (.putfield 126, 3) := by decide +kernel
theorem dX3_addKind_68 : decode cX3_addKind 68 = .ok (.aload 4, 2) := by decide +kernel
theorem dX3_addKind_70 : decode cX3_addKind 70 = .ok (.iload_n 3, 1) := by decide +kernel
theorem dX3_addKind_71 : decode cX3_addKind 71 = .ok (.putfield 129, 3) := by decide +kernel
theorem dX3_addKind_74 : decode cX3_addKind 74 = .ok (.aload_n 0, 1) := by decide +kernel
theorem dX3_addKind_75 : decode cX3_addKind 75 = .ok (.dup, 1) := by decide +kernel
theorem dX3_addKind_76 : decode cX3_addKind 76 = .ok (.getfield 91, 3) := by decide +kernel
theorem dX3_addKind_79 : decode cX3_addKind 79 = .ok (.iconst 1, 1) := by decide +kernel
theorem dX3_addKind_80 : decode cX3_addKind 80 = .ok (.iadd, 1) := by decide +kernel
theorem dX3_addKind_81 : decode cX3_addKind 81 = .ok (.putfield 91, 3) := by decide +kernel
theorem dX3_addKind_84 : decode cX3_addKind 84 = .ok (.aload_n 0, 1) := by decide +kernel
theorem dX3_addKind_85 : decode cX3_addKind 85 = .ok (.getfield 91, 3) := by decide +kernel
theorem dX3_addKind_88 : decode cX3_addKind 88 = .ok (.iconst 1, 1) := by decide +kernel
theorem dX3_addKind_89 : decode cX3_addKind 89 = .ok (.isub, 1) := by decide +kernel
theorem dX3_addKind_90 : decode cX3_addKind 90 = .ok (.ireturn, 1) := by decide +kernel
theorem dX3_addFarmer_0 : decode cX3_addFarmer 0 = .ok (.aload_n 0, 1) := by decide +kernel
theorem dX3_addFarmer_1 : decode cX3_addFarmer 1 = .ok (.getfield 94, 3) := by decide +kernel
theorem dX3_addFarmer_4 : decode cX3_addFarmer 4 = .ok (.bipush 8, 2) := by decide +kernel
theorem dX3_addFarmer_6 : decode cX3_addFarmer 6 = .ok (.if_icmp .lt 6, 3) := by decide +kernel
theorem dX3_addFarmer_9 : decode cX3_addFarmer 9 = .ok (.ldc 122, 2) := by decide +kernel
theorem dX3_addFarmer_11 : decode cX3_addFarmer 11 = .ok (.ireturn, 1) := by decide +kernel
theorem dX3_addFarmer_12 : decode cX3_addFarmer 12 = .ok (.aload_n 0, 1) := by decide +kernel
theorem dX3_addFarmer_13 : decode cX3_addFarmer 13 = .ok (.getfield 37, 3) := by decide +kernel
theorem dX3_addFarmer_16 : decode cX3_addFarmer 16 = .ok (.aload_n 0, 1) := by decide +kernel
theorem dX3_addFarmer_17 : decode cX3_addFarmer 17 = .ok (.getfield 94, 3) := by decide +kernel
theorem dX3_addFarmer_20 : decode cX3_addFarmer 20 = .ok (.aaload, 1) := by decide +kernel
theorem dX3_addFarmer_21 : decode cX3_addFarmer 21 = .ok (.astore_n 1, 1) := by decide +kernel
theorem dX3_addFarmer_22 : decode cX3_addFarmer 22 = .ok (.aload_n 1, 1) := by decide +kernel
theorem dX3_addFarmer_23 : decode cX3_addFarmer 23 = .ok (.iconst 0, 1) := by decide +kernel
theorem dX3_addFarmer_24 : decode cX3_addFarmer 24 = .ok (.putfield 132, 3) := by decide +kernel
theorem dX3_addFarmer_27 : decode cX3_addFarmer 27 = .ok (.aload_n 1, 1) := by decide +kernel
theorem dX3_addFarmer_28 : decode cX3_addFarmer 28 = .ok (.iconst 0, 1) := by decide +kernel
theorem dX3_addFarmer_29 : decode cX3_addFarmer 29 = .ok (.putfield 135, 3) := by decide +kernel
theorem dX3_addFarmer_32 : decode cX3_addFarmer 32 = .ok (.aload_n 0, 1) := by decide +kernel
theorem dX3_addFarmer_33 : decode cX3_addFarmer 33 = .ok (.dup, 1) := by decide +kernel
theorem dX3_addFarmer_34 : decode cX3_addFarmer 34 = .ok (.getfield 94, 3) := by decide +kernel
theorem dX3_addFarmer_37 : decode cX3_addFarmer 37 = .ok (.iconst 1, 1) := by decide +kernel
theorem dX3_addFarmer_38 : decode cX3_addFarmer 38 = .ok (.iadd, 1) := by decide +kernel
theorem dX3_addFarmer_39 : decode cX3_addFarmer 39 = .ok (.putfield 94, 3) := by decide +kernel
theorem dX3_addFarmer_42 : decode cX3_addFarmer 42 = .ok (.aload_n 0, 1) := by decide +kernel
theorem dX3_addFarmer_43 : decode cX3_addFarmer 43 = .ok (.getfield 94, 3) := by decide +kernel
theorem dX3_addFarmer_46 : decode cX3_addFarmer 46 = .ok (.iconst 1, 1) := by decide +kernel
theorem dX3_addFarmer_47 : decode cX3_addFarmer 47 = .ok (.isub, 1) := by decide +kernel
theorem dX3_addFarmer_48 : decode cX3_addFarmer 48 = .ok (.ireturn, 1) := by decide +kernel
theorem dX3_addSack_0 : decode cX3_addSack 0 = .ok (.aload_n 0, 1) := by decide +kernel
theorem dX3_addSack_1 : decode cX3_addSack 1 = .ok (.iload_n 1, 1) := by decide +kernel
theorem dX3_addSack_2 : decode cX3_addSack 2 = .ok (.invokevirtual 138, 3) := by decide +kernel
theorem dX3_addSack_5 : decode cX3_addSack 5 = .ok (.ifCond .eq 22, 3) := by decide +kernel
theorem dX3_addSack_8 : decode cX3_addSack 8 = .ok (.aload_n 0, 1) := by decide +kernel
theorem dX3_addSack_9 : decode cX3_addSack 9 = .ok (.iload_n 2, 1) := by decide +kernel
theorem dX3_addSack_10 : decode cX3_addSack 10 = .ok (.invokevirtual 142, 3) := by decide +kernel
theorem dX3_addSack_13 : decode cX3_addSack 13 = .ok (.ifCond .eq 14, 3) := by decide +kernel
theorem dX3_addSack_16 : decode cX3_addSack 16 = .ok (.iload_n 3, 1) := by decide +kernel
theorem dX3_addSack_17 : decode cX3_addSack 17 = .ok (.iconst 1, 1) := by decide +kernel
theorem dX3_addSack_18 : decode cX3_addSack 18 = .ok (.sipush 200, 3) := by decide +kernel
theorem dX3_addSack_21 : decode cX3_addSack 21 = .ok (.invokestatic 110, 3) := by decide +kernel
theorem dX3_addSack_24 : decode cX3_addSack 24 = .ok (.ifCond .ne 6, 3) := by decide +kernel
theorem dX3_addSack_27 : decode cX3_addSack 27 = .ok (.ldc 120, 2) := by decide +kernel
theorem dX3_addSack_29 : decode cX3_addSack 29 = .ok (.ireturn, 1) := by decide +kernel
theorem dX3_addSack_30 : decode cX3_addSack 30 = .ok (.aload_n 0, 1) := by decide +kernel
theorem dX3_addSack_31 : decode cX3_addSack 31 = .ok (.getfield 97, 3) := by decide +kernel
theorem dX3_addSack_34 : decode cX3_addSack 34 = .ok (.bipush 24, 2) := by decide +kernel
theorem dX3_addSack_36 : decode cX3_addSack 36 = .ok (.if_icmp .lt 6, 3) := by decide +kernel
theorem dX3_addSack_39 : decode cX3_addSack 39 = .ok (.ldc 122, 2) := by decide +kernel
theorem dX3_addSack_41 : decode cX3_addSack 41 = .ok (.ireturn, 1) := by decide +kernel
theorem dX3_addSack_42 : decode cX3_addSack 42 = .ok (.aload_n 0, 1) := by decide +kernel
theorem dX3_addSack_43 : decode cX3_addSack 43 = .ok (.getfield 43, 3) := by decide +kernel
theorem dX3_addSack_46 : decode cX3_addSack 46 = .ok (.aload_n 0, 1) := by decide +kernel
theorem dX3_addSack_47 : decode cX3_addSack 47 = .ok (.getfield 97, 3) := by decide +kernel
theorem dX3_addSack_50 : decode cX3_addSack 50 = .ok (.aaload, 1) := by decide +kernel
theorem dX3_addSack_51 : decode cX3_addSack 51 = .ok (.iload_n 1, 1) := by decide +kernel
theorem dX3_addSack_52 : decode cX3_addSack 52 = .ok (.iload_n 2, 1) := by decide +kernel
theorem dX3_addSack_53 : decode cX3_addSack 53 = .ok (.aload_n 0, 1) := by decide +kernel
theorem dX3_addSack_54 : decode cX3_addSack 54 = .ok (.getfield 31, 3) := by decide +kernel
theorem dX3_addSack_57 : decode cX3_addSack 57 = .ok (.iload_n 2, 1) := by decide +kernel
theorem dX3_addSack_58 : decode cX3_addSack 58 = .ok (.aaload, 1) := by decide +kernel
theorem dX3_addSack_59 : decode cX3_addSack 59 = .ok (.iload_n 3, 1) := by decide +kernel
theorem dX3_addSack_60 : decode cX3_addSack 60 = .ok (.invokevirtual 145, 3) := by decide +kernel
theorem dX3_addSack_63 : decode cX3_addSack 63 = .ok (.aload_n 0, 1) := by decide +kernel
theorem dX3_addSack_64 : decode cX3_addSack 64 = .ok (.dup, 1) := by decide +kernel
theorem dX3_addSack_65 : decode cX3_addSack 65 = .ok (.getfield 97, 3) := by decide +kernel
theorem dX3_addSack_68 : decode cX3_addSack 68 = .ok (.iconst 1, 1) := by decide +kernel
theorem dX3_addSack_69 : decode cX3_addSack 69 = .ok (.iadd, 1) := by decide +kernel
theorem dX3_addSack_70 : decode cX3_addSack 70 = .ok (.putfield 97, 3) := by decide +kernel
theorem dX3_addSack_73 : decode cX3_addSack 73 = .ok (.aload_n 0, 1) := by decide +kernel
theorem dX3_addSack_74 : decode cX3_addSack 74 = .ok (.getfield 97, 3) := by decide +kernel
theorem dX3_addSack_77 : decode cX3_addSack 77 = .ok (.iconst 1, 1) := by decide +kernel
theorem dX3_addSack_78 : decode cX3_addSack 78 = .ok (.isub, 1) := by decide +kernel
theorem dX3_addSack_79 : decode cX3_addSack 79 = .ok (.ireturn, 1) := by decide +kernel
theorem dX3_withdrawSack_0 : decode cX3_withdrawSack 0 = .ok (.aload_n 0, 1) := by decide +kernel
theorem dX3_withdrawSack_1 : decode cX3_withdrawSack 1 = .ok (.iload_n 1, 1) := by decide +kernel
theorem dX3_withdrawSack_2 : decode cX3_withdrawSack 2 = .ok (.invokevirtual 149, 3) := by decide +kernel
theorem dX3_withdrawSack_5 : decode cX3_withdrawSack 5 = .ok (.ifCond .ne 6, 3) := by decide +kernel
theorem dX3_withdrawSack_8 : decode cX3_withdrawSack 8 = .ok (.ldc 120, 2) := by decide +kernel
theorem dX3_withdrawSack_10 : decode cX3_withdrawSack 10 = .ok (.ireturn, 1) := by decide +kernel
theorem dX3_withdrawSack_11 : decode cX3_withdrawSack 11 = .ok (.aload_n 0, 1) := by decide +kernel
theorem dX3_withdrawSack_12 : decode cX3_withdrawSack 12 = .ok (.getfield 43, 3) := by decide +kernel
theorem dX3_withdrawSack_15 : decode cX3_withdrawSack 15 = .ok (.iload_n 1, 1) := by decide +kernel
theorem dX3_withdrawSack_16 : decode cX3_withdrawSack 16 = .ok (.aaload, 1) := by decide +kernel
theorem dX3_withdrawSack_17 : decode cX3_withdrawSack 17 = .ok (.astore_n 2, 1) := by decide +kernel
theorem dX3_withdrawSack_18 : decode cX3_withdrawSack 18 = .ok (.aload_n 2, 1) := by decide +kernel
theorem dX3_withdrawSack_19 : decode cX3_withdrawSack 19 = .ok (.getfield 152, 3) := by decide +kernel
theorem dX3_withdrawSack_22 : decode cX3_withdrawSack 22 = .ok (.ifCond .eq 6, 3) := by decide +kernel
theorem dX3_withdrawSack_25 : decode cX3_withdrawSack 25 = .ok (.ldc 155, 2) := by decide +kernel
theorem dX3_withdrawSack_27 : decode cX3_withdrawSack 27 = .ok (.ireturn, 1) := by decide +kernel
theorem dX3_withdrawSack_28 : decode cX3_withdrawSack 28 = .ok (.aload_n 2, 1) := by decide +kernel
theorem dX3_withdrawSack_29 : decode cX3_withdrawSack 29 = .ok (.aload_n 2, 1) := by decide +kernel
theorem dX3_withdrawSack_30 : decode cX3_withdrawSack 30 = .ok (.invokevirtual 156, 3) := by decide +kernel
theorem dX3_withdrawSack_33 : decode cX3_withdrawSack 33 = .ok (.putfield 160, 3) := by decide +kernel
theorem dX3_withdrawSack_36 : decode cX3_withdrawSack 36 = .ok (.aload_n 2, 1) := by decide +kernel
theorem dX3_withdrawSack_37 : decode cX3_withdrawSack 37 = .ok (.iconst 3, 1) := by decide +kernel
theorem dX3_withdrawSack_38 : decode cX3_withdrawSack 38 = .ok (.putfield 152, 3) := by decide +kernel
theorem dX3_withdrawSack_41 : decode cX3_withdrawSack 41 = .ok (.aload_n 2, 1) := by decide +kernel
theorem dX3_withdrawSack_42 : decode cX3_withdrawSack 42 = .ok (.getfield 160, 3) := by decide +kernel
theorem dX3_withdrawSack_45 : decode cX3_withdrawSack 45 = .ok (.ireturn, 1) := by decide +kernel
theorem dX3_fetchSack_0 : decode cX3_fetchSack 0 = .ok (.aload_n 0, 1) := by decide +kernel
theorem dX3_fetchSack_1 : decode cX3_fetchSack 1 = .ok (.iload_n 1, 1) := by decide +kernel
theorem dX3_fetchSack_2 : decode cX3_fetchSack 2 = .ok (.invokevirtual 149, 3) := by decide +kernel
theorem dX3_fetchSack_5 : decode cX3_fetchSack 5 = .ok (.ifCond .ne 6, 3) := by decide +kernel
theorem dX3_fetchSack_8 : decode cX3_fetchSack 8 = .ok (.ldc 120, 2) := by decide +kernel
theorem dX3_fetchSack_10 : decode cX3_fetchSack 10 = .ok (.ireturn, 1) := by decide +kernel
theorem dX3_fetchSack_11 : decode cX3_fetchSack 11 = .ok (.aload_n 0, 1) := by decide +kernel
theorem dX3_fetchSack_12 : decode cX3_fetchSack 12 = .ok (.getfield 43, 3) := by decide +kernel
theorem dX3_fetchSack_15 : decode cX3_fetchSack 15 = .ok (.iload_n 1, 1) := by decide +kernel
theorem dX3_fetchSack_16 : decode cX3_fetchSack 16 = .ok (.aaload, 1) := by decide +kernel
theorem dX3_fetchSack_17 : decode cX3_fetchSack 17 = .ok (.astore_n 2, 1) := by decide +kernel
theorem dX3_fetchSack_18 : decode cX3_fetchSack 18 = .ok (.aload_n 2, 1) := by decide +kernel
theorem dX3_fetchSack_19 : decode cX3_fetchSack 19 = .ok (.getfield 152, 3) := by decide +kernel
theorem dX3_fetchSack_22 : decode cX3_fetchSack 22 = .ok (.iconst 2, 1) := by decide +kernel
theorem dX3_fetchSack_23 : decode cX3_fetchSack 23 = .ok (.if_icmp .ne 10, 3) := by decide +kernel
theorem dX3_fetchSack_26 : decode cX3_fetchSack 26 = .ok (.aload_n 2, 1) := by decide +kernel
theorem dX3_fetchSack_27 : decode cX3_fetchSack 27 = .ok (.invokevirtual 163, 3) := by decide +kernel
theorem dX3_fetchSack_30 : decode cX3_fetchSack 30 = .ok (.ifCond .eq 6, 3) := by decide +kernel
theorem dX3_fetchSack_33 : decode cX3_fetchSack 33 = .ok (.ldc 155, 2) := by decide +kernel
theorem dX3_fetchSack_35 : decode cX3_fetchSack 35 = .ok (.ireturn, 1) := by decide +kernel
theorem dX3_fetchSack_36 : decode cX3_fetchSack 36 = .ok (.aload_n 2, 1) := by decide +kernel
theorem dX3_fetchSack_37 : decode cX3_fetchSack 37 = .ok (.aload_n 2, 1) := by decide +kernel
theorem dX3_fetchSack_38 : decode cX3_fetchSack 38 = .ok (.invokevirtual 167, 3) := by decide +kernel
theorem dX3_fetchSack_41 : decode cX3_fetchSack 41 = .ok (.putfield 160, 3) := by decide +kernel
theorem dX3_fetchSack_44 : decode cX3_fetchSack 44 = .ok (.aload_n 2, 1) := by decide +kernel
theorem dX3_fetchSack_45 : decode cX3_fetchSack 45 = .ok (.iconst 3, 1) := by decide +kernel
theorem dX3_fetchSack_46 : decode cX3_fetchSack 46 = .ok (.putfield 152, 3) := by decide +kernel
theorem dX3_fetchSack_49 : decode cX3_fetchSack 49 = .ok (.aload_n 2, 1) := by decide +kernel
theorem dX3_fetchSack_50 : decode cX3_fetchSack 50 = .ok (.getfield 160, 3) := by decide +kernel
theorem dX3_fetchSack_53 : decode cX3_fetchSack 53 = .ok (.ireturn, 1) := by decide +kernel
theorem dX3_tellKind_0 : decode cX3_tellKind 0 = .ok (.iload_n 2, 1) := by decide +kernel
theorem dX3_tellKind_1 : decode cX3_tellKind 1 = .ok (.tableswitch 81 0 4 #[35, 45, 55, 65, 72], 35) := by decide +kernel
theorem dX3_tellKind_36 : decode cX3_tellKind 36 = .ok (.aload_n 0, 1) := by decide +kernel
theorem dX3_tellKind_37 : decode cX3_tellKind 37 = .ok (.getfield 31, 3) := by decide +kernel
theorem dX3_tellKind_40 : decode cX3_tellKind 40 = .ok (.iload_n 1, 1) := by decide +kernel
theorem dX3_tellKind_41 : decode cX3_tellKind 41 = .ok (.aaload, 1) := by decide +kernel
theorem dX3_tellKind_42 : decode cX3_tellKind 42 = .ok (.getfield 123, 3) := by decide +kernel
theorem dX3_tellKind_45 : decode cX3_tellKind 45 = .ok (.ireturn, 1) := by decide +kernel
theorem dX3_tellKind_46 : decode cX3_tellKind 46 = .ok (.aload_n 0, 1) := by decide +kernel
theorem dX3_tellKind_47 : decode cX3_tellKind 47 = .ok (.getfield 31, 3) := by decide +kernel
theorem dX3_tellKind_50 : decode cX3_tellKind 50 = .ok (.iload_n 1, 1) := by decide +kernel
theorem dX3_tellKind_51 : decode cX3_tellKind 51 = .ok (.aaload, 1) := by decide +kernel
theorem dX3_tellKind_52 : decode cX3_tellKind 52 = .ok (.getfield 126, 3) := by decide +kernel
theorem dX3_tellKind_55 : decode cX3_tellKind 55 = .ok (.ireturn, 1) := by decide +kernel
theorem dX3_tellKind_56 : decode cX3_tellKind 56 = .ok (.aload_n 0, 1) := by decide +kernel
theorem dX3_tellKind_57 : decode cX3_tellKind 57 = .ok (.getfield 31, 3) := by decide +kernel
theorem dX3_tellKind_60 : decode cX3_tellKind 60 = .ok (.iload_n 1, 1) := by decide +kernel
theorem dX3_tellKind_61 : decode cX3_tellKind 61 = .ok (.aaload, 1) := by decide +kernel
theorem dX3_tellKind_62 : decode cX3_tellKind 62 = .ok (.getfield 129, 3) := by decide +kernel
theorem dX3_tellKind_65 : decode cX3_tellKind 65 = .ok (.ireturn, 1) := by decide +kernel
theorem dX3_tellKind_66 : decode cX3_tellKind 66 = .ok (.aload_n 0, 1) := by decide +kernel
theorem dX3_tellKind_67 : decode cX3_tellKind 67 = .ok (.iconst (-1), 1) := by decide +kernel
theorem dX3_tellKind_68 : decode cX3_tellKind 68 = .ok (.iload_n 1, 1) := by decide +kernel
theorem dX3_tellKind_69 : decode cX3_tellKind 69 = .ok (.invokevirtual 170, 3) := by decide +kernel
theorem dX3_tellKind_72 : decode cX3_tellKind 72 = .ok (.ireturn, 1) := by decide +kernel
theorem dX3_tellKind_73 : decode cX3_tellKind 73 = .ok (.aload_n 0, 1) := by decide +kernel
theorem dX3_tellKind_74 : decode cX3_tellKind 74 = .ok (.iconst (-1), 1) := by decide +kernel
theorem dX3_tellKind_75 : decode cX3_tellKind 75 = .ok (.iload_n 1, 1) := by decide +kernel
theorem dX3_tellKind_76 : decode cX3_tellKind 76 = .ok (.bipush 6, 2) := by decide +kernel
theorem dX3_tellKind_78 : decode cX3_tellKind 78 = .ok (.invokevirtual 174, 3) := by decide +kernel
theorem dX3_tellKind_81 : decode cX3_tellKind 81 = .ok (.ireturn, 1) := by decide +kernel
theorem dX3_tellKind_82 : decode cX3_tellKind 82 = .ok (.aload_n 0, 1) := by decide +kernel
theorem dX3_tellKind_83 : decode cX3_tellKind 83 = .ok (.iconst (-1), 1) := by decide +kernel
theorem dX3_tellKind_84 : decode cX3_tellKind 84 = .ok (.iload_n 1, 1) := by decide +kernel
theorem dX3_tellKind_85 : decode cX3_tellKind 85 = .ok (.bipush 9, 2) := by decide +kernel
theorem dX3_tellKind_87 : decode cX3_tellKind 87 = .ok (.invokevirtual 174, 3) := by decide +kernel
theorem dX3_tellKind_90 : decode cX3_tellKind 90 = .ok (.ireturn, 1) := by decide +kernel
theorem dX3_tellFarmer_0 : decode cX3_tellFarmer 0 = .ok (.iload_n 2, 1) := by decide +kernel
theorem dX3_tellFarmer_1 : decode cX3_tellFarmer 1 = .ok (.tableswitch 76 0 4 #[35, 45, 52, 62, 68], 35) := by decide +kernel
theorem dX3_tellFarmer_36 : decode cX3_tellFarmer 36 = .ok (.aload_n 0, 1) := by decide +kernel
theorem dX3_tellFarmer_37 : decode cX3_tellFarmer 37 = .ok (.getfield 37, 3) := by decide +kernel
theorem dX3_tellFarmer_40 : decode cX3_tellFarmer 40 = .ok (.iload_n 1, 1) := by decide +kernel
theorem dX3_tellFarmer_41 : decode cX3_tellFarmer 41 = .ok (.aaload, 1) := by decide +kernel
theorem dX3_tellFarmer_42 : decode cX3_tellFarmer 42 = .ok (.getfield 132, 3) := by decide +kernel
theorem dX3_tellFarmer_45 : decode cX3_tellFarmer 45 = .ok (.ireturn, 1) := by decide +kernel
theorem dX3_tellFarmer_46 : decode cX3_tellFarmer 46 = .ok (.aload_n 0, 1) := by decide +kernel
theorem dX3_tellFarmer_47 : decode cX3_tellFarmer 47 = .ok (.iload_n 1, 1) := by decide +kernel
theorem dX3_tellFarmer_48 : decode cX3_tellFarmer 48 = .ok (.iconst (-1), 1) := by decide +kernel
theorem dX3_tellFarmer_49 : decode cX3_tellFarmer 49 = .ok (.invokevirtual 170, 3) := by decide +kernel
theorem dX3_tellFarmer_52 : decode cX3_tellFarmer 52 = .ok (.ireturn, 1) := by decide +kernel
theorem dX3_tellFarmer_53 : decode cX3_tellFarmer 53 = .ok (.aload_n 0, 1) := by decide +kernel
theorem dX3_tellFarmer_54 : decode cX3_tellFarmer 54 = .ok (.getfield 37, 3) := by decide +kernel
theorem dX3_tellFarmer_57 : decode cX3_tellFarmer 57 = .ok (.iload_n 1, 1) := by decide +kernel
theorem dX3_tellFarmer_58 : decode cX3_tellFarmer 58 = .ok (.aaload, 1) := by decide +kernel
theorem dX3_tellFarmer_59 : decode cX3_tellFarmer 59 = .ok (.getfield 135, 3) := by decide +kernel
theorem dX3_tellFarmer_62 : decode cX3_tellFarmer 62 = .ok (.ireturn, 1) := by decide +kernel
theorem dX3_tellFarmer_63 : decode cX3_tellFarmer 63 = .ok (.aload_n 0, 1) := by decide +kernel
theorem dX3_tellFarmer_64 : decode cX3_tellFarmer 64 = .ok (.iload_n 1, 1) := by decide +kernel
theorem dX3_tellFarmer_65 : decode cX3_tellFarmer 65 = .ok (.invokevirtual 178, 3) := by decide +kernel
theorem dX3_tellFarmer_68 : decode cX3_tellFarmer 68 = .ok (.ireturn, 1) := by decide +kernel
theorem dX3_tellFarmer_69 : decode cX3_tellFarmer 69 = .ok (.aload_n 0, 1) := by decide +kernel
theorem dX3_tellFarmer_70 : decode cX3_tellFarmer 70 = .ok (.iload_n 1, 1) := by decide +kernel
theorem dX3_tellFarmer_71 : decode cX3_tellFarmer 71 = .ok (.iconst (-1), 1) := by decide +kernel
theorem dX3_tellFarmer_72 : decode cX3_tellFarmer 72 = .ok (.iconst 5, 1) := by decide +kernel
theorem dX3_tellFarmer_73 : decode cX3_tellFarmer 73 = .ok (.invokevirtual 174, 3) := by decide +kernel
theorem dX3_tellFarmer_76 : decode cX3_tellFarmer 76 = .ok (.ireturn, 1) := by decide +kernel
theorem dX3_tellFarmer_77 : decode cX3_tellFarmer 77 = .ok (.aload_n 0, 1) := by decide +kernel
theorem dX3_tellFarmer_78 : decode cX3_tellFarmer 78 = .ok (.iload_n 1, 1) := by decide +kernel
theorem dX3_tellFarmer_79 : decode cX3_tellFarmer 79 = .ok (.iconst (-1), 1) := by decide +kernel
theorem dX3_tellFarmer_80 : decode cX3_tellFarmer 80 = .ok (.bipush 10, 2) := by decide +kernel
theorem dX3_tellFarmer_82 : decode cX3_tellFarmer 82 = .ok (.invokevirtual 174, 3) := by decide +kernel
theorem dX3_tellFarmer_85 : decode cX3_tellFarmer 85 = .ok (.ireturn, 1) := by decide +kernel
theorem dX3_sumOf_0 : decode cX3_sumOf 0 = .ok (.iconst 0, 1) := by decide +kernel
theorem dX3_sumOf_1 : decode cX3_sumOf 1 = .ok (.istore 4, 2) := by decide +kernel
theorem dX3_sumOf_3 : decode cX3_sumOf 3 = .ok (.iconst 0, 1) := by decide +kernel
theorem dX3_sumOf_4 : decode cX3_sumOf 4 = .ok (.istore 5, 2) := by decide +kernel
theorem dX3_sumOf_6 : decode cX3_sumOf 6 = .ok (.iload 5, 2) := by decide +kernel
theorem dX3_sumOf_8 : decode cX3_sumOf 8 = .ok (.aload_n 0, 1) := by decide +kernel
theorem dX3_sumOf_9 : decode cX3_sumOf 9 = .ok (.getfield 97, 3) := by decide +kernel
theorem dX3_sumOf_12 : decode cX3_sumOf 12 = .ok (.if_icmp .ge 40, 3) := by decide +kernel
theorem dX3_sumOf_15 : decode cX3_sumOf 15 = .ok (.aload_n 0, 1) := by decide +kernel
theorem dX3_sumOf_16 : decode cX3_sumOf 16 = .ok (.getfield 43, 3) := by decide +kernel
theorem dX3_sumOf_19 : decode cX3_sumOf 19 = .ok (.iload 5, 2) := by decide +kernel
theorem dX3_sumOf_21 : decode cX3_sumOf 21 = .ok (.aaload, 1) := by decide +kernel
theorem dX3_sumOf_22 : decode cX3_sumOf 22 = .ok (.iload_n 1, 1) := by decide +kernel
theorem dX3_sumOf_23 : decode cX3_sumOf 23 = .ok (.iload_n 2, 1) := by decide +kernel
theorem dX3_sumOf_24 : decode cX3_sumOf 24 = .ok (.invokevirtual 182, 3) := by decide +kernel
theorem dX3_sumOf_27 : decode cX3_sumOf 27 = .ok (.ifCond .eq 19, 3) := by decide +kernel
theorem dX3_sumOf_30 : decode cX3_sumOf 30 = .ok (.iload 4, 2) := by decide +kernel
theorem dX3_sumOf_32 : decode cX3_sumOf 32 = .ok (.aload_n 0, 1) := by decide +kernel
theorem dX3_sumOf_33 : decode cX3_sumOf 33 = .ok (.getfield 43, 3) := by decide +kernel
theorem dX3_sumOf_36 : decode cX3_sumOf 36 = .ok (.iload 5, 2) := by decide +kernel
theorem dX3_sumOf_38 : decode cX3_sumOf 38 = .ok (.aaload, 1) := by decide +kernel
theorem dX3_sumOf_39 : decode cX3_sumOf 39 = .ok (.iload_n 3, 1) := by decide +kernel
theorem dX3_sumOf_40 : decode cX3_sumOf 40 = .ok (.invokevirtual 186, 3) := by decide +kernel
theorem dX3_sumOf_43 : decode cX3_sumOf 43 = .ok (.iadd, 1) := by decide +kernel
theorem dX3_sumOf_44 : decode cX3_sumOf 44 = .ok (.istore 4, 2) := by decide +kernel
theorem dX3_sumOf_46 : decode cX3_sumOf 46 = .ok (.iinc 5 1, 3) := by decide +kernel
theorem dX3_sumOf_49 : decode cX3_sumOf 49 = .ok (.goto (-43), 3) := by decide +kernel
theorem dX3_sumOf_52 : decode cX3_sumOf 52 = .ok (.iload 4, 2) := by decide +kernel
theorem dX3_sumOf_54 : decode cX3_sumOf 54 = .ok (.ireturn, 1) := by decide +kernel
theorem dX3_sacksBrought_0 : decode cX3_sacksBrought 0 = .ok (.iconst 0, 1) := by decide +kernel
theorem dX3_sacksBrought_1 : decode cX3_sacksBrought 1 = .ok (.istore_n 3, 1) := by decide +kernel
theorem dX3_sacksBrought_2 : decode cX3_sacksBrought 2 = .ok (.iconst 0, 1) := by decide +kernel
theorem dX3_sacksBrought_3 : decode cX3_sacksBrought 3 = .ok (.istore 4, 2) := by decide +kernel
theorem dX3_sacksBrought_5 : decode cX3_sacksBrought 5 = .ok (.iload 4, 2) := by decide +kernel
theorem dX3_sacksBrought_7 : decode cX3_sacksBrought 7 = .ok (.aload_n 0, 1) := by decide +kernel
theorem dX3_sacksBrought_8 : decode cX3_sacksBrought 8 = .ok (.getfield 97, 3) := by decide +kernel
theorem dX3_sacksBrought_11 : decode cX3_sacksBrought 11 = .ok (.if_icmp .ge 27, 3) := by decide +kernel
theorem dX3_sacksBrought_14 : decode cX3_sacksBrought 14 = .ok (.aload_n 0, 1) := by decide +kernel
theorem dX3_sacksBrought_15 : decode cX3_sacksBrought 15 = .ok (.getfield 43, 3) := by decide +kernel
theorem dX3_sacksBrought_18 : decode cX3_sacksBrought 18 = .ok (.iload 4, 2) := by decide +kernel
theorem dX3_sacksBrought_20 : decode cX3_sacksBrought 20 = .ok (.aaload, 1) := by decide +kernel
theorem dX3_sacksBrought_21 : decode cX3_sacksBrought 21 = .ok (.iload_n 1, 1) := by decide +kernel
theorem dX3_sacksBrought_22 : decode cX3_sacksBrought 22 = .ok (.iload_n 2, 1) := by decide +kernel
theorem dX3_sacksBrought_23 : decode cX3_sacksBrought 23 = .ok (.invokevirtual 182, 3) := by decide +kernel
theorem dX3_sacksBrought_26 : decode cX3_sacksBrought 26 = .ok (.ifCond .eq 6, 3) := by decide +kernel
theorem dX3_sacksBrought_29 : decode cX3_sacksBrought 29 = .ok (.iinc 3 1, 3) := by decide +kernel
theorem dX3_sacksBrought_32 : decode cX3_sacksBrought 32 = .ok (.iinc 4 1, 3) := by decide +kernel
theorem dX3_sacksBrought_35 : decode cX3_sacksBrought 35 = .ok (.goto (-30), 3) := by decide +kernel
theorem dX3_sacksBrought_38 : decode cX3_sacksBrought 38 = .ok (.iload_n 3, 1) := by decide +kernel
theorem dX3_sacksBrought_39 : decode cX3_sacksBrought 39 = .ok (.ireturn, 1) := by decide +kernel
theorem dX3_sacksInStage_0 : decode cX3_sacksInStage 0 = .ok (.iconst 0, 1) := by decide +kernel
theorem dX3_sacksInStage_1 : decode cX3_sacksInStage 1 = .ok (.istore_n 2, 1) := by decide +kernel
theorem dX3_sacksInStage_2 : decode cX3_sacksInStage 2 = .ok (.iconst 0, 1) := by decide +kernel
theorem dX3_sacksInStage_3 : decode cX3_sacksInStage 3 = .ok (.istore_n 3, 1) := by decide +kernel
theorem dX3_sacksInStage_4 : decode cX3_sacksInStage 4 = .ok (.iload_n 3, 1) := by decide +kernel
theorem dX3_sacksInStage_5 : decode cX3_sacksInStage 5 = .ok (.aload_n 0, 1) := by decide +kernel
theorem dX3_sacksInStage_6 : decode cX3_sacksInStage 6 = .ok (.getfield 97, 3) := by decide +kernel
theorem dX3_sacksInStage_9 : decode cX3_sacksInStage 9 = .ok (.if_icmp .ge 25, 3) := by decide +kernel
theorem dX3_sacksInStage_12 : decode cX3_sacksInStage 12 = .ok (.aload_n 0, 1) := by decide +kernel
theorem dX3_sacksInStage_13 : decode cX3_sacksInStage 13 = .ok (.getfield 43, 3) := by decide +kernel
theorem dX3_sacksInStage_16 : decode cX3_sacksInStage 16 = .ok (.iload_n 3, 1) := by decide +kernel
theorem dX3_sacksInStage_17 : decode cX3_sacksInStage 17 = .ok (.aaload, 1) := by decide +kernel
theorem dX3_sacksInStage_18 : decode cX3_sacksInStage 18 = .ok (.getfield 152, 3) := by decide +kernel
theorem dX3_sacksInStage_21 : decode cX3_sacksInStage 21 = .ok (.iload_n 1, 1) := by decide +kernel
theorem dX3_sacksInStage_22 : decode cX3_sacksInStage 22 = .ok (.if_icmp .ne 6, 3) := by decide +kernel
theorem dX3_sacksInStage_25 : decode cX3_sacksInStage 25 = .ok (.iinc 2 1, 3) := by decide +kernel
theorem dX3_sacksInStage_28 : decode cX3_sacksInStage 28 = .ok (.iinc 3 1, 3) := by decide +kernel
theorem dX3_sacksInStage_31 : decode cX3_sacksInStage 31 = .ok (.goto (-27), 3) := by decide +kernel
theorem dX3_sacksInStage_34 : decode cX3_sacksInStage 34 = .ok (.iload_n 2, 1) := by decide +kernel
theorem dX3_sacksInStage_35 : decode cX3_sacksInStage 35 = .ok (.ireturn, 1) := by decide +kernel
theorem dX3_placeInQueue_0 : decode cX3_placeInQueue 0 = .ok (.aload_n 0, 1) := by decide +kernel
theorem dX3_placeInQueue_1 : decode cX3_placeInQueue 1 = .ok (.getfield 43, 3) := by decide +kernel
theorem dX3_placeInQueue_4 : decode cX3_placeInQueue 4 = .ok (.iload_n 1, 1) := by decide +kernel
theorem dX3_placeInQueue_5 : decode cX3_placeInQueue 5 = .ok (.aaload, 1) := by decide +kernel
theorem dX3_placeInQueue_6 : decode cX3_placeInQueue 6 = .ok (.getfield 152, 3) := by decide +kernel
theorem dX3_placeInQueue_9 : decode cX3_placeInQueue 9 = .ok (.ifCond .eq 6, 3) := by decide +kernel
theorem dX3_placeInQueue_12 : decode cX3_placeInQueue 12 = .ok (.ldc 189, 2) := by decide +kernel
theorem dX3_placeInQueue_14 : decode cX3_placeInQueue 14 = .ok (.ireturn, 1) := by decide +kernel
theorem dX3_placeInQueue_15 : decode cX3_placeInQueue 15 = .ok (.iconst 0, 1) := by decide +kernel
theorem dX3_placeInQueue_16 : decode cX3_placeInQueue 16 = .ok (.istore_n 2, 1) := by decide +kernel
theorem dX3_placeInQueue_17 : decode cX3_placeInQueue 17 = .ok (.iconst 0, 1) := by decide +kernel
theorem dX3_placeInQueue_18 : decode cX3_placeInQueue 18 = .ok (.istore_n 3, 1) := by decide +kernel
theorem dX3_placeInQueue_19 : decode cX3_placeInQueue 19 = .ok (.iload_n 3, 1) := by decide +kernel
theorem dX3_placeInQueue_20 : decode cX3_placeInQueue 20 = .ok (.aload_n 0, 1) := by decide +kernel
theorem dX3_placeInQueue_21 : decode cX3_placeInQueue 21 = .ok (.getfield 97, 3) := by decide +kernel
theorem dX3_placeInQueue_24 : decode cX3_placeInQueue 24 = .ok (.if_icmp .ge 33, 3) := by decide +kernel
theorem dX3_placeInQueue_27 : decode cX3_placeInQueue 27 = .ok (.aload_n 0, 1) := by decide +kernel
theorem dX3_placeInQueue_28 : decode cX3_placeInQueue 28 = .ok (.getfield 43, 3) := by decide +kernel
theorem dX3_placeInQueue_31 : decode cX3_placeInQueue 31 = .ok (.iload_n 3, 1) := by decide +kernel
theorem dX3_placeInQueue_32 : decode cX3_placeInQueue 32 = .ok (.aaload, 1) := by decide +kernel
theorem dX3_placeInQueue_33 : decode cX3_placeInQueue 33 = .ok (.getfield 152, 3) := by decide +kernel
theorem dX3_placeInQueue_36 : decode cX3_placeInQueue 36 = .ok (.ifCond .ne 15, 3) := by decide +kernel
theorem dX3_placeInQueue_39 : decode cX3_placeInQueue 39 = .ok (.aload_n 0, 1) := by decide +kernel
theorem dX3_placeInQueue_40 : decode cX3_placeInQueue 40 = .ok (.iload_n 3, 1) := by decide +kernel
theorem dX3_placeInQueue_41 : decode cX3_placeInQueue 41 = .ok (.iload_n 1, 1) := by decide +kernel
theorem dX3_placeInQueue_42 : decode cX3_placeInQueue 42 = .ok (.invokevirtual 190, 3) := by decide +kernel
theorem dX3_placeInQueue_45 : decode cX3_placeInQueue 45 = .ok (.ifCond .eq 6, 3) := by decide +kernel
theorem dX3_placeInQueue_48 : decode cX3_placeInQueue 48 = .ok (.iinc 2 1, 3) := by decide +kernel
theorem dX3_placeInQueue_51 : decode cX3_placeInQueue 51 = .ok (.iinc 3 1, 3) := by decide +kernel
theorem dX3_placeInQueue_54 : decode cX3_placeInQueue 54 = .ok (.goto (-35), 3) := by decide +kernel
theorem dX3_placeInQueue_57 : decode cX3_placeInQueue 57 = .ok (.iload_n 2, 1) := by decide +kernel
theorem dX3_placeInQueue_58 : decode cX3_placeInQueue 58 = .ok (.ireturn, 1) := by decide +kernel
theorem dX3_sackAtPlace_0 : decode cX3_sackAtPlace 0 = .ok (.iconst 0, 1) := by decide +kernel
theorem dX3_sackAtPlace_1 : decode cX3_sackAtPlace 1 = .ok (.istore_n 2, 1) := by decide +kernel
theorem dX3_sackAtPlace_2 : decode cX3_sackAtPlace 2 = .ok (.iload_n 2, 1) := by decide +kernel
theorem dX3_sackAtPlace_3 : decode cX3_sackAtPlace 3 = .ok (.aload_n 0, 1) := by decide +kernel
theorem dX3_sackAtPlace_4 : decode cX3_sackAtPlace 4 = .ok (.getfield 97, 3) := by decide +kernel
theorem dX3_sackAtPlace_7 : decode cX3_sackAtPlace 7 = .ok (.if_icmp .ge 20, 3) := by decide +kernel
theorem dX3_sackAtPlace_10 : decode cX3_sackAtPlace 10 = .ok (.aload_n 0, 1) := by decide +kernel
theorem dX3_sackAtPlace_11 : decode cX3_sackAtPlace 11 = .ok (.iload_n 2, 1) := by decide +kernel
theorem dX3_sackAtPlace_12 : decode cX3_sackAtPlace 12 = .ok (.invokevirtual 193, 3) := by decide +kernel
theorem dX3_sackAtPlace_15 : decode cX3_sackAtPlace 15 = .ok (.iload_n 1, 1) := by decide +kernel
theorem dX3_sackAtPlace_16 : decode cX3_sackAtPlace 16 = .ok (.if_icmp .ne 5, 3) := by decide +kernel
theorem dX3_sackAtPlace_19 : decode cX3_sackAtPlace 19 = .ok (.iload_n 2, 1) := by decide +kernel
theorem dX3_sackAtPlace_20 : decode cX3_sackAtPlace 20 = .ok (.ireturn, 1) := by decide +kernel
theorem dX3_sackAtPlace_21 : decode cX3_sackAtPlace 21 = .ok (.iinc 2 1, 3) := by decide +kernel
theorem dX3_sackAtPlace_24 : decode cX3_sackAtPlace 24 = .ok (.goto (-22), 3) := by decide +kernel
theorem dX3_sackAtPlace_27 : decode cX3_sackAtPlace 27 = .ok (.ldc 189, 2) := by decide +kernel
theorem dX3_sackAtPlace_29 : decode cX3_sackAtPlace 29 = .ok (.ireturn, 1) := by decide +kernel
theorem dX3_firstOfQueue_0 : decode cX3_firstOfQueue 0 = .ok (.iconst (-1), 1) := by decide +kernel
theorem dX3_firstOfQueue_1 : decode cX3_firstOfQueue 1 = .ok (.istore_n 1, 1) := by decide +kernel
theorem dX3_firstOfQueue_2 : decode cX3_firstOfQueue 2 = .ok (.iconst 0, 1) := by decide +kernel
theorem dX3_firstOfQueue_3 : decode cX3_firstOfQueue 3 = .ok (.istore_n 2, 1) := by decide +kernel
theorem dX3_firstOfQueue_4 : decode cX3_firstOfQueue 4 = .ok (.iconst 0, 1) := by decide +kernel
theorem dX3_firstOfQueue_5 : decode cX3_firstOfQueue 5 = .ok (.istore_n 3, 1) := by decide +kernel
theorem dX3_firstOfQueue_6 : decode cX3_firstOfQueue 6 = .ok (.iload_n 3, 1) := by decide +kernel
theorem dX3_firstOfQueue_7 : decode cX3_firstOfQueue 7 = .ok (.aload_n 0, 1) := by decide +kernel
theorem dX3_firstOfQueue_8 : decode cX3_firstOfQueue 8 = .ok (.getfield 97, 3) := by decide +kernel
theorem dX3_firstOfQueue_11 : decode cX3_firstOfQueue 11 = .ok (.if_icmp .ge 49, 3) := by decide +kernel
theorem dX3_firstOfQueue_14 : decode cX3_firstOfQueue 14 = .ok (.aload_n 0, 1) := by decide +kernel
theorem dX3_firstOfQueue_15 : decode cX3_firstOfQueue 15 = .ok (.getfield 43, 3) := by decide +kernel
theorem dX3_firstOfQueue_18 : decode cX3_firstOfQueue 18 = .ok (.iload_n 3, 1) := by decide +kernel
theorem dX3_firstOfQueue_19 : decode cX3_firstOfQueue 19 = .ok (.aaload, 1) := by decide +kernel
theorem dX3_firstOfQueue_20 : decode cX3_firstOfQueue 20 = .ok (.getfield 152, 3) := by decide +kernel
theorem dX3_firstOfQueue_23 : decode cX3_firstOfQueue 23 = .ok (.ifCond .ne 31, 3) := by decide +kernel
theorem dX3_firstOfQueue_26 : decode cX3_firstOfQueue 26 = .ok (.aload_n 0, 1) := by decide +kernel
theorem dX3_firstOfQueue_27 : decode cX3_firstOfQueue 27 = .ok (.aload_n 0, 1) := by decide +kernel
theorem dX3_firstOfQueue_28 : decode cX3_firstOfQueue 28 = .ok (.getfield 43, 3) := by decide +kernel
theorem dX3_firstOfQueue_31 : decode cX3_firstOfQueue 31 = .ok (.iload_n 3, 1) := by decide +kernel
theorem dX3_firstOfQueue_32 : decode cX3_firstOfQueue 32 = .ok (.aaload, 1) := by decide +kernel
theorem dX3_firstOfQueue_33 : decode cX3_firstOfQueue 33 = .ok (.invokevirtual 196, 3) := by decide +kernel
theorem dX3_firstOfQueue_36 : decode cX3_firstOfQueue 36 = .ok (.istore 4, 2) := by decide +kernel
theorem dX3_firstOfQueue_38 : decode cX3_firstOfQueue 38 = .ok (.iload_n 1, 1) := by decide +kernel
theorem dX3_firstOfQueue_39 : decode cX3_firstOfQueue 39 = .ok (.iconst (-1), 1) := by decide +kernel
theorem dX3_firstOfQueue_40 : decode cX3_firstOfQueue 40 = .ok (.if_icmp .eq 9, 3) := by decide +kernel
theorem dX3_firstOfQueue_43 : decode cX3_firstOfQueue 43 = .ok (.iload 4, 2) := by decide +kernel
theorem dX3_firstOfQueue_45 : decode cX3_firstOfQueue 45 = .ok (.iload_n 2, 1) := by decide +kernel
theorem dX3_firstOfQueue_46 : decode cX3_firstOfQueue 46 = .ok (.if_icmp .ge 8, 3) := by decide +kernel
theorem dX3_firstOfQueue_49 : decode cX3_firstOfQueue 49 = .ok (.iload_n 3, 1) := by decide +kernel
theorem dX3_firstOfQueue_50 : decode cX3_firstOfQueue 50 = .ok (.istore_n 1, 1) := by decide +kernel
theorem dX3_firstOfQueue_51 : decode cX3_firstOfQueue 51 = .ok (.iload 4, 2) := by decide +kernel
theorem dX3_firstOfQueue_53 : decode cX3_firstOfQueue 53 = .ok (.istore_n 2, 1) := by decide +kernel
theorem dX3_firstOfQueue_54 : decode cX3_firstOfQueue 54 = .ok (.iinc 3 1, 3) := by decide +kernel
theorem dX3_firstOfQueue_57 : decode cX3_firstOfQueue 57 = .ok (.goto (-51), 3) := by decide +kernel
theorem dX3_firstOfQueue_60 : decode cX3_firstOfQueue 60 = .ok (.iload_n 1, 1) := by decide +kernel
theorem dX3_firstOfQueue_61 : decode cX3_firstOfQueue 61 = .ok (.ireturn, 1) := by decide +kernel
theorem dX3_waitsAheadOf_0 : decode cX3_waitsAheadOf 0 = .ok (.aload_n 0, 1) := by decide +kernel
theorem dX3_waitsAheadOf_1 : decode cX3_waitsAheadOf 1 = .ok (.aload_n 0, 1) := by decide +kernel
theorem dX3_waitsAheadOf_2 : decode cX3_waitsAheadOf 2 = .ok (.getfield 43, 3) := by decide +kernel
theorem dX3_waitsAheadOf_5 : decode cX3_waitsAheadOf 5 = .ok (.iload_n 1, 1) := by decide +kernel
theorem dX3_waitsAheadOf_6 : decode cX3_waitsAheadOf 6 = .ok (.aaload, 1) := by decide +kernel
theorem dX3_waitsAheadOf_7 : decode cX3_waitsAheadOf 7 = .ok (.invokevirtual 196, 3) := by decide +kernel
theorem dX3_waitsAheadOf_10 : decode cX3_waitsAheadOf 10 = .ok (.istore_n 3, 1) := by decide +kernel
theorem dX3_waitsAheadOf_11 : decode cX3_waitsAheadOf 11 = .ok (.aload_n 0, 1) := by decide +kernel
theorem dX3_waitsAheadOf_12 : decode cX3_waitsAheadOf 12 = .ok (.aload_n 0, 1) := by decide +kernel
theorem dX3_waitsAheadOf_13 : decode cX3_waitsAheadOf 13 = .ok (.getfield 43, 3) := by decide +kernel
theorem dX3_waitsAheadOf_16 : decode cX3_waitsAheadOf 16 = .ok (.iload_n 2, 1) := by decide +kernel
theorem dX3_waitsAheadOf_17 : decode cX3_waitsAheadOf 17 = .ok (.aaload, 1) := by decide +kernel
theorem dX3_waitsAheadOf_18 : decode cX3_waitsAheadOf 18 = .ok (.invokevirtual 196, 3) := by decide +kernel
theorem dX3_waitsAheadOf_21 : decode cX3_waitsAheadOf 21 = .ok (.istore 4, 2) := by decide +kernel
theorem dX3_waitsAheadOf_23 : decode cX3_waitsAheadOf 23 = .ok (.iload_n 3, 1) := by decide +kernel
theorem dX3_waitsAheadOf_24 : decode cX3_waitsAheadOf 24 = .ok (.iload 4, 2) := by decide +kernel
theorem dX3_waitsAheadOf_26 : decode cX3_waitsAheadOf 26 = .ok (.if_icmp .lt 14, 3) := by decide +kernel
theorem dX3_waitsAheadOf_29 : decode cX3_waitsAheadOf 29 = .ok (.iload_n 3, 1) := by decide +kernel
theorem dX3_waitsAheadOf_30 : decode cX3_waitsAheadOf 30 = .ok (.iload 4, 2) := by decide +kernel
theorem dX3_waitsAheadOf_32 : decode cX3_waitsAheadOf 32 = .ok (.if_icmp .ne 12, 3) := by decide +kernel
theorem dX3_waitsAheadOf_35 : decode cX3_waitsAheadOf 35 = .ok (.iload_n 1, 1) := by decide +kernel
theorem dX3_waitsAheadOf_36 : decode cX3_waitsAheadOf 36 = .ok (.iload_n 2, 1) := by decide +kernel
theorem dX3_waitsAheadOf_37 : decode cX3_waitsAheadOf 37 = .ok (.if_icmp .ge 7, 3) := by decide +kernel
theorem dX3_waitsAheadOf_40 : decode cX3_waitsAheadOf 40 = .ok (.iconst 1, 1) := by decide +kernel
theorem dX3_waitsAheadOf_41 : decode cX3_waitsAheadOf 41 = .ok (.goto 4, 3) := by decide +kernel
theorem dX3_waitsAheadOf_44 : decode cX3_waitsAheadOf 44 = .ok (.iconst 0, 1) := by decide +kernel
theorem dX3_waitsAheadOf_45 : decode cX3_waitsAheadOf 45 = .ok (.ireturn, 1) := by decide +kernel
theorem dX3_rankInQueue_0 : decode cX3_rankInQueue 0 = .ok (.aload_n 0, 1) := by decide +kernel
theorem dX3_rankInQueue_1 : decode cX3_rankInQueue 1 = .ok (.getfield 18, 3) := by decide +kernel
theorem dX3_rankInQueue_4 : decode cX3_rankInQueue 4 = .ok (.bipush 12, 2) := by decide +kernel
theorem dX3_rankInQueue_6 : decode cX3_rankInQueue 6 = .ok (.iaload, 1) := by decide +kernel
theorem dX3_rankInQueue_7 : decode cX3_rankInQueue 7 = .ok (.tableswitch 78 1 3 #[25, 30, 58], 25) := by decide +kernel
theorem dX3_rankInQueue_32 : decode cX3_rankInQueue 32 = .ok (.aload_n 1, 1) := by decide +kernel
theorem dX3_rankInQueue_33 : decode cX3_rankInQueue 33 = .ok (.getfield 200, 3) := by decide +kernel
theorem dX3_rankInQueue_36 : decode cX3_rankInQueue 36 = .ok (.ireturn, 1) := by decide +kernel
theorem dX3_rankInQueue_37 : decode cX3_rankInQueue 37 = .ok (.aload_n 0, 1) := by decide +kernel
theorem dX3_rankInQueue_38 : decode cX3_rankInQueue 38 = .ok (.aload_n 1, 1) := by decide +kernel
theorem dX3_rankInQueue_39 : decode cX3_rankInQueue 39 = .ok (.getfield 203, 3) := by decide +kernel
theorem dX3_rankInQueue_42 : decode cX3_rankInQueue 42 = .ok (.invokevirtual 138, 3) := by decide +kernel
theorem dX3_rankInQueue_45 : decode cX3_rankInQueue 45 = .ok (.ifCond .eq 18, 3) := by decide +kernel
theorem dX3_rankInQueue_48 : decode cX3_rankInQueue 48 = .ok (.aload_n 0, 1) := by decide +kernel
theorem dX3_rankInQueue_49 : decode cX3_rankInQueue 49 = .ok (.getfield 37, 3) := by decide +kernel
theorem dX3_rankInQueue_52 : decode cX3_rankInQueue 52 = .ok (.aload_n 1, 1) := by decide +kernel
theorem dX3_rankInQueue_53 : decode cX3_rankInQueue 53 = .ok (.getfield 203, 3) := by decide +kernel
theorem dX3_rankInQueue_56 : decode cX3_rankInQueue 56 = .ok (.aaload, 1) := by decide +kernel
theorem dX3_rankInQueue_57 : decode cX3_rankInQueue 57 = .ok (.getfield 135, 3) := by decide +kernel
theorem dX3_rankInQueue_60 : decode cX3_rankInQueue 60 = .ok (.goto 4, 3) := by decide +kernel
theorem dX3_rankInQueue_63 : decode cX3_rankInQueue 63 = .ok (.iconst 0, 1) := by decide +kernel
theorem dX3_rankInQueue_64 : decode cX3_rankInQueue 64 = .ok (.ireturn, 1) := by decide +kernel
theorem dX3_rankInQueue_65 : decode cX3_rankInQueue 65 = .ok (.aload_n 1, 1) := by decide +kernel
theorem dX3_rankInQueue_66 : decode cX3_rankInQueue 66 = .ok (.getfield 206, 3) := by decide +kernel
theorem dX3_rankInQueue_69 : decode cX3_rankInQueue 69 = .ok (.aload_n 0, 1) := by decide +kernel
theorem dX3_rankInQueue_70 : decode cX3_rankInQueue 70 = .ok (.getfield 51, 3) := by decide +kernel
theorem dX3_rankInQueue_73 : decode cX3_rankInQueue 73 = .ok (.if_icmp .ne 7, 3) := by decide +kernel
theorem dX3_rankInQueue_76 : decode cX3_rankInQueue 76 = .ok (.iconst 0, 1) := by decide +kernel
theorem dX3_rankInQueue_77 : decode cX3_rankInQueue 77 = .ok (.goto 7, 3) := by decide +kernel
theorem dX3_rankInQueue_80 : decode cX3_rankInQueue 80 = .ok (.aload_n 1, 1) := by decide +kernel
theorem dX3_rankInQueue_81 : decode cX3_rankInQueue 81 = .ok (.getfield 209, 3) := by decide +kernel
theorem dX3_rankInQueue_84 : decode cX3_rankInQueue 84 = .ok (.ireturn, 1) := by decide +kernel
theorem dX3_rankInQueue_85 : decode cX3_rankInQueue 85 = .ok (.iconst 0, 1) := by decide +kernel
theorem dX3_rankInQueue_86 : decode cX3_rankInQueue 86 = .ok (.ireturn, 1) := by decide +kernel
theorem dX3_addPence_0 : decode cX3_addPence 0 = .ok (.aload_n 0, 1) := by decide +kernel
theorem dX3_addPence_1 : decode cX3_addPence 1 = .ok (.iload_n 1, 1) := by decide +kernel
theorem dX3_addPence_2 : decode cX3_addPence 2 = .ok (.invokevirtual 138, 3) := by decide +kernel
theorem dX3_addPence_5 : decode cX3_addPence 5 = .ok (.ifCond .eq 13, 3) := by decide +kernel
theorem dX3_addPence_8 : decode cX3_addPence 8 = .ok (.iload_n 2, 1) := by decide +kernel
theorem dX3_addPence_9 : decode cX3_addPence 9 = .ok (.iconst 1, 1) := by decide +kernel
theorem dX3_addPence_10 : decode cX3_addPence 10 = .ok (.ldc 210, 2) := by decide +kernel
theorem dX3_addPence_12 : decode cX3_addPence 12 = .ok (.invokestatic 110, 3) := by decide +kernel
theorem dX3_addPence_15 : decode cX3_addPence 15 = .ok (.ifCond .ne 6, 3) := by decide +kernel
theorem dX3_addPence_18 : decode cX3_addPence 18 = .ok (.ldc 120, 2) := by decide +kernel
theorem dX3_addPence_20 : decode cX3_addPence 20 = .ok (.ireturn, 1) := by decide +kernel
theorem dX3_addPence_21 : decode cX3_addPence 21 = .ok (.aload_n 0, 1) := by decide +kernel
theorem dX3_addPence_22 : decode cX3_addPence 22 = .ok (.getfield 37, 3) := by decide +kernel
theorem dX3_addPence_25 : decode cX3_addPence 25 = .ok (.iload_n 1, 1) := by decide +kernel
theorem dX3_addPence_26 : decode cX3_addPence 26 = .ok (.aaload, 1) := by decide +kernel
theorem dX3_addPence_27 : decode cX3_addPence 27 = .ok (.astore_n 3, 1) := by decide +kernel
theorem dX3_addPence_28 : decode cX3_addPence 28 = .ok (.aload_n 3, 1) := by decide +kernel
theorem dX3_addPence_29 : decode cX3_addPence 29 = .ok (.getfield 132, 3) := by decide +kernel
theorem dX3_addPence_32 : decode cX3_addPence 32 = .ok (.i2l, 1) := by decide +kernel
theorem dX3_addPence_33 : decode cX3_addPence 33 = .ok (.iload_n 2, 1) := by decide +kernel
theorem dX3_addPence_34 : decode cX3_addPence 34 = .ok (.i2l, 1) := by decide +kernel
theorem dX3_addPence_35 : decode cX3_addPence 35 = .ok (.ladd, 1) := by decide +kernel
theorem dX3_addPence_36 : decode cX3_addPence 36 = .ok (.ldc2_w 211, 3) := by decide +kernel
theorem dX3_addPence_39 : decode cX3_addPence 39 = .ok (.lcmp, 1) := by decide +kernel
theorem dX3_addPence_40 : decode cX3_addPence 40 = .ok (.ifCond .le 6, 3) := by decide +kernel
theorem dX3_addPence_43 : decode cX3_addPence 43 = .ok (.ldc 155, 2) := by decide +kernel
theorem dX3_addPence_45 : decode cX3_addPence 45 = .ok (.ireturn, 1) := by decide +kernel
theorem dX3_addPence_46 : decode cX3_addPence 46 = .ok (.aload_n 3, 1) := by decide +kernel
theorem dX3_addPence_47 : decode cX3_addPence 47 = .ok (.dup, 1) := by decide +kernel
theorem dX3_addPence_48 : decode cX3_addPence 48 = .ok (.getfield 132, 3) := by decide +kernel
theorem dX3_addPence_51 : decode cX3_addPence 51 = .ok (.iload_n 2, 1) := by decide +kernel
theorem dX3_addPence_52 : decode cX3_addPence 52 = .ok (.iadd, 1) := by decide +kernel
theorem dX3_addPence_53 : decode cX3_addPence 53 = .ok (.putfield 132, 3) := by decide +kernel
theorem dX3_addPence_56 : decode cX3_addPence 56 = .ok (.aload_n 3, 1) := by decide +kernel
theorem dX3_addPence_57 : decode cX3_addPence 57 = .ok (.getfield 132, 3) := by decide +kernel
theorem dX3_addPence_60 : decode cX3_addPence 60 = .ok (.ireturn, 1) := by decide +kernel
theorem dX3_putInPledge_0 : decode cX3_putInPledge 0 = .ok (.aload_n 0, 1) := by decide +kernel
theorem dX3_putInPledge_1 : decode cX3_putInPledge 1 = .ok (.iload_n 1, 1) := by decide +kernel
theorem dX3_putInPledge_2 : decode cX3_putInPledge 2 = .ok (.invokevirtual 149, 3) := by decide +kernel
theorem dX3_putInPledge_5 : decode cX3_putInPledge 5 = .ok (.ifCond .eq 14, 3) := by decide +kernel
theorem dX3_putInPledge_8 : decode cX3_putInPledge 8 = .ok (.iload_n 2, 1) := by decide +kernel
theorem dX3_putInPledge_9 : decode cX3_putInPledge 9 = .ok (.iconst 1, 1) := by decide +kernel
theorem dX3_putInPledge_10 : decode cX3_putInPledge 10 = .ok (.sipush 200, 3) := by decide +kernel
theorem dX3_putInPledge_13 : decode cX3_putInPledge 13 = .ok (.invokestatic 110, 3) := by decide +kernel
theorem dX3_putInPledge_16 : decode cX3_putInPledge 16 = .ok (.ifCond .ne 6, 3) := by decide +kernel
theorem dX3_putInPledge_19 : decode cX3_putInPledge 19 = .ok (.ldc 120, 2) := by decide +kernel
theorem dX3_putInPledge_21 : decode cX3_putInPledge 21 = .ok (.ireturn, 1) := by decide +kernel
theorem dX3_putInPledge_22 : decode cX3_putInPledge 22 = .ok (.aload_n 0, 1) := by decide +kernel
theorem dX3_putInPledge_23 : decode cX3_putInPledge 23 = .ok (.getfield 43, 3) := by decide +kernel
theorem dX3_putInPledge_26 : decode cX3_putInPledge 26 = .ok (.iload_n 1, 1) := by decide +kernel
theorem dX3_putInPledge_27 : decode cX3_putInPledge 27 = .ok (.aaload, 1) := by decide +kernel
theorem dX3_putInPledge_28 : decode cX3_putInPledge 28 = .ok (.astore_n 3, 1) := by decide +kernel
theorem dX3_putInPledge_29 : decode cX3_putInPledge 29 = .ok (.aload_n 3, 1) := by decide +kernel
theorem dX3_putInPledge_30 : decode cX3_putInPledge 30 = .ok (.getfield 152, 3) := by decide +kernel
theorem dX3_putInPledge_33 : decode cX3_putInPledge 33 = .ok (.iconst 2, 1) := by decide +kernel
theorem dX3_putInPledge_34 : decode cX3_putInPledge 34 = .ok (.if_icmp .ne 29, 3) := by decide +kernel
theorem dX3_putInPledge_37 : decode cX3_putInPledge 37 = .ok (.aload_n 3, 1) := by decide +kernel
theorem dX3_putInPledge_38 : decode cX3_putInPledge 38 = .ok (.invokevirtual 163, 3) := by decide +kernel
theorem dX3_putInPledge_41 : decode cX3_putInPledge 41 = .ok (.ifCond .ne 22, 3) := by decide +kernel
theorem dX3_putInPledge_44 : decode cX3_putInPledge 44 = .ok (.aload_n 3, 1) := by decide +kernel
theorem dX3_putInPledge_45 : decode cX3_putInPledge 45 = .ok (.invokevirtual 167, 3) := by decide +kernel
theorem dX3_putInPledge_48 : decode cX3_putInPledge 48 = .ok (.iload_n 2, 1) := by decide +kernel
theorem dX3_putInPledge_49 : decode cX3_putInPledge 49 = .ok (.if_icmp .lt 14, 3) := by decide +kernel
theorem dX3_putInPledge_52 : decode cX3_putInPledge 52 = .ok (.aload_n 0, 1) := by decide +kernel
theorem dX3_putInPledge_53 : decode cX3_putInPledge 53 = .ok (.aload_n 3, 1) := by decide +kernel
theorem dX3_putInPledge_54 : decode cX3_putInPledge 54 = .ok (.getfield 203, 3) := by decide +kernel
theorem dX3_putInPledge_57 : decode cX3_putInPledge 57 = .ok (.invokevirtual 138, 3) := by decide +kernel
theorem dX3_putInPledge_60 : decode cX3_putInPledge 60 = .ok (.ifCond .ne 6, 3) := by decide +kernel
theorem dX3_putInPledge_63 : decode cX3_putInPledge 63 = .ok (.ldc 155, 2) := by decide +kernel
theorem dX3_putInPledge_65 : decode cX3_putInPledge 65 = .ok (.ireturn, 1) := by decide +kernel
theorem dX3_putInPledge_66 : decode cX3_putInPledge 66 = .ok (.aload_n 0, 1) := by decide +kernel
theorem dX3_putInPledge_67 : decode cX3_putInPledge 67 = .ok (.getfield 37, 3) := by decide +kernel
theorem dX3_putInPledge_70 : decode cX3_putInPledge 70 = .ok (.aload_n 3, 1) := by decide +kernel
theorem dX3_putInPledge_71 : decode cX3_putInPledge 71 = .ok (.getfield 203, 3) := by decide +kernel
theorem dX3_putInPledge_74 : decode cX3_putInPledge 74 = .ok (.aaload, 1) := by decide +kernel
theorem dX3_putInPledge_75 : decode cX3_putInPledge 75 = .ok (.astore 4, 2) := by decide +kernel
theorem dX3_putInPledge_77 : decode cX3_putInPledge 77 = .ok (.aload_n 0, 1) := by decide +kernel
theorem dX3_putInPledge_78 : decode cX3_putInPledge 78 = .ok (.aload_n 3, 1) := by decide +kernel
theorem dX3_putInPledge_79 : decode cX3_putInPledge 79 = .ok (.iload_n 2, 1) := by decide +kernel
theorem dX3_putInPledge_80 : decode cX3_putInPledge 80 = .ok (.invokevirtual 213, 3) := by decide +kernel
theorem dX3_putInPledge_83 : decode cX3_putInPledge 83 = .ok (.istore 5, 2) := by decide +kernel
theorem dX3_putInPledge_85 : decode cX3_putInPledge 85 = .ok (.iload 5, 2) := by decide +kernel
theorem dX3_putInPledge_87 : decode cX3_putInPledge 87 = .ok (.iconst (-1), 1) := by decide +kernel
theorem dX3_putInPledge_88 : decode cX3_putInPledge 88 = .ok (.if_icmp .eq 20, 3) := by decide +kernel
theorem dX3_putInPledge_91 : decode cX3_putInPledge 91 = .ok (.aload 4, 2) := by decide +kernel
theorem dX3_putInPledge_93 : decode cX3_putInPledge 93 = .ok (.getfield 132, 3) := by decide +kernel
theorem dX3_putInPledge_96 : decode cX3_putInPledge 96 = .ok (.i2l, 1) := by decide +kernel
theorem dX3_putInPledge_97 : decode cX3_putInPledge 97 = .ok (.iload 5, 2) := by decide +kernel
theorem dX3_putInPledge_99 : decode cX3_putInPledge 99 = .ok (.i2l, 1) := by decide +kernel
theorem dX3_putInPledge_100 : decode cX3_putInPledge 100 = .ok (.ladd, 1) := by decide +kernel
theorem dX3_putInPledge_101 : decode cX3_putInPledge 101 = .ok (.ldc2_w 211, 3) := by decide +kernel
theorem dX3_putInPledge_104 : decode cX3_putInPledge 104 = .ok (.lcmp, 1) := by decide +kernel
theorem dX3_putInPledge_105 : decode cX3_putInPledge 105 = .ok (.ifCond .le 6, 3) := by decide +kernel
theorem dX3_putInPledge_108 : decode cX3_putInPledge 108 = .ok (.ldc 155, 2) := by decide +kernel
theorem dX3_putInPledge_110 : decode cX3_putInPledge 110 = .ok (.ireturn, 1) := by decide +kernel
theorem dX3_putInPledge_111 : decode cX3_putInPledge 111 = .ok (.aload 4, 2) := by decide +kernel
theorem dX3_putInPledge_113 : decode cX3_putInPledge 113 = .ok (.dup, 1) := by decide +kernel
theorem dX3_putInPledge_114 : decode cX3_putInPledge 114 = .ok (.getfield 132, 3) := by decide +kernel
theorem dX3_putInPledge_117 : decode cX3_putInPledge 117 = .ok (.iload 5, 2) := by decide +kernel
theorem dX3_putInPledge_119 : decode cX3_putInPledge 119 = .ok (.iadd, 1) := by decide +kernel
theorem dX3_putInPledge_120 : decode cX3_putInPledge 120 = .ok (.putfield 132, 3) := by decide +kernel
theorem dX3_putInPledge_123 : decode cX3_putInPledge 123 = .ok (.aload_n 3, 1) := by decide +kernel
theorem dX3_putInPledge_124 : decode cX3_putInPledge 124 = .ok (.iload_n 2, 1) := by decide +kernel
theorem dX3_putInPledge_125 : decode cX3_putInPledge 125 = .ok (.putfield 217, 3) := by decide +kernel
theorem dX3_putInPledge_128 : decode cX3_putInPledge 128 = .ok (.aload_n 3, 1) := by decide +kernel
theorem dX3_putInPledge_129 : decode cX3_putInPledge 129 = .ok (.iload 5, 2) := by decide +kernel
theorem dX3_putInPledge_131 : decode cX3_putInPledge 131 = .ok (.putfield 220, 3) := by decide +kernel
theorem dX3_putInPledge_134 : decode cX3_putInPledge 134 = .ok (.aload_n 3, 1) := by decide +kernel
theorem dX3_putInPledge_135 : decode cX3_putInPledge 135 = .ok (.aload_n 0, 1) := by decide +kernel
theorem dX3_putInPledge_136 : decode cX3_putInPledge 136 = .ok (.invokevirtual 223, 3) := by decide +kernel
theorem dX3_putInPledge_139 : decode cX3_putInPledge 139 = .ok (.putfield 226, 3) := by decide +kernel
theorem dX3_putInPledge_142 : decode cX3_putInPledge 142 = .ok (.aload_n 3, 1) := by decide +kernel
theorem dX3_putInPledge_143 : decode cX3_putInPledge 143 = .ok (.aload_n 0, 1) := by decide +kernel
theorem dX3_putInPledge_144 : decode cX3_putInPledge 144 = .ok (.invokevirtual 223, 3) := by decide +kernel
theorem dX3_putInPledge_147 : decode cX3_putInPledge 147 = .ok (.aload_n 0, 1) := by decide +kernel
theorem dX3_putInPledge_148 : decode cX3_putInPledge 148 = .ok (.getfield 18, 3) := by decide +kernel
theorem dX3_putInPledge_151 : decode cX3_putInPledge 151 = .ok (.bipush 10, 2) := by decide +kernel
theorem dX3_putInPledge_153 : decode cX3_putInPledge 153 = .ok (.iaload, 1) := by decide +kernel
theorem dX3_putInPledge_154 : decode cX3_putInPledge 154 = .ok (.iadd, 1) := by decide +kernel
theorem dX3_putInPledge_155 : decode cX3_putInPledge 155 = .ok (.putfield 229, 3) := by decide +kernel
theorem dX3_putInPledge_158 : decode cX3_putInPledge 158 = .ok (.iload 5, 2) := by decide +kernel
theorem dX3_putInPledge_160 : decode cX3_putInPledge 160 = .ok (.ireturn, 1) := by decide +kernel
theorem dX3_loanFor_0 : decode cX3_loanFor 0 = .ok (.iload_n 2, 1) := by decide +kernel
theorem dX3_loanFor_1 : decode cX3_loanFor 1 = .ok (.i2l, 1) := by decide +kernel
theorem dX3_loanFor_2 : decode cX3_loanFor 2 = .ok (.aload_n 1, 1) := by decide +kernel
theorem dX3_loanFor_3 : decode cX3_loanFor 3 = .ok (.getfield 232, 3) := by decide +kernel
theorem dX3_loanFor_6 : decode cX3_loanFor 6 = .ok (.i2l, 1) := by decide +kernel
theorem dX3_loanFor_7 : decode cX3_loanFor 7 = .ok (.lmul, 1) := by decide +kernel
theorem dX3_loanFor_8 : decode cX3_loanFor 8 = .ok (.lstore_n 3, 1) := by decide +kernel
theorem dX3_loanFor_9 : decode cX3_loanFor 9 = .ok (.lload_n 3, 1) := by decide +kernel
theorem dX3_loanFor_10 : decode cX3_loanFor 10 = .ok (.aload_n 0, 1) := by decide +kernel
theorem dX3_loanFor_11 : decode cX3_loanFor 11 = .ok (.getfield 18, 3) := by decide +kernel
theorem dX3_loanFor_14 : decode cX3_loanFor 14 = .ok (.bipush 11, 2) := by decide +kernel
theorem dX3_loanFor_16 : decode cX3_loanFor 16 = .ok (.iaload, 1) := by decide +kernel
theorem dX3_loanFor_17 : decode cX3_loanFor 17 = .ok (.i2l, 1) := by decide +kernel
theorem dX3_loanFor_18 : decode cX3_loanFor 18 = .ok (.lmul, 1) := by decide +kernel
theorem dX3_loanFor_19 : decode cX3_loanFor 19 = .ok (.lstore 5, 2) := by decide +kernel
theorem dX3_loanFor_21 : decode cX3_loanFor 21 = .ok (.lload_n 3, 1) := by decide +kernel
theorem dX3_loanFor_22 : decode cX3_loanFor 22 = .ok (.ldc2_w 211, 3) := by decide +kernel
theorem dX3_loanFor_25 : decode cX3_loanFor 25 = .ok (.lcmp, 1) := by decide +kernel
theorem dX3_loanFor_26 : decode cX3_loanFor 26 = .ok (.ifCond .gt 12, 3) := by decide +kernel
theorem dX3_loanFor_29 : decode cX3_loanFor 29 = .ok (.lload 5, 2) := by decide +kernel
theorem dX3_loanFor_31 : decode cX3_loanFor 31 = .ok (.ldc2_w 211, 3) := by decide +kernel
theorem dX3_loanFor_34 : decode cX3_loanFor 34 = .ok (.lcmp, 1) := by decide +kernel
theorem dX3_loanFor_35 : decode cX3_loanFor 35 = .ok (.ifCond .le 5, 3) := by decide +kernel
theorem dX3_loanFor_38 : decode cX3_loanFor 38 = .ok (.iconst (-1), 1) := by decide +kernel
theorem dX3_loanFor_39 : decode cX3_loanFor 39 = .ok (.ireturn, 1) := by decide +kernel
theorem dX3_loanFor_40 : decode cX3_loanFor 40 = .ok (.lload 5, 2) := by decide +kernel
theorem dX3_loanFor_42 : decode cX3_loanFor 42 = .ok (.ldc2_w 233, 3) := by decide +kernel
theorem dX3_loanFor_45 : decode cX3_loanFor 45 = .ok (.ldiv, 1) := by decide +kernel
theorem dX3_loanFor_46 : decode cX3_loanFor 46 = .ok (.l2i, 1) := by decide +kernel
theorem dX3_loanFor_47 : decode cX3_loanFor 47 = .ok (.ireturn, 1) := by decide +kernel
theorem dX3_debtOf_0 : decode cX3_debtOf 0 = .ok (.aload_n 1, 1) := by decide +kernel
theorem dX3_debtOf_1 : decode cX3_debtOf 1 = .ok (.getfield 220, 3) := by decide +kernel
theorem dX3_debtOf_4 : decode cX3_debtOf 4 = .ok (.i2l, 1) := by decide +kernel
theorem dX3_debtOf_5 : decode cX3_debtOf 5 = .ok (.aload_n 0, 1) := by decide +kernel
theorem dX3_debtOf_6 : decode cX3_debtOf 6 = .ok (.getfield 18, 3) := by decide +kernel
theorem dX3_debtOf_9 : decode cX3_debtOf 9 = .ok (.bipush 9, 2) := by decide +kernel
theorem dX3_debtOf_11 : decode cX3_debtOf 11 = .ok (.iaload, 1) := by decide +kernel
theorem dX3_debtOf_12 : decode cX3_debtOf 12 = .ok (.i2l, 1) := by decide +kernel
theorem dX3_debtOf_13 : decode cX3_debtOf 13 = .ok (.lmul, 1) := by decide +kernel
theorem dX3_debtOf_14 : decode cX3_debtOf 14 = .ok (.lstore_n 2, 1) := by decide +kernel
theorem dX3_debtOf_15 : decode cX3_debtOf 15 = .ok (.lload_n 2, 1) := by decide +kernel
theorem dX3_debtOf_16 : decode cX3_debtOf 16 = .ok (.aload_n 0, 1) := by decide +kernel
theorem dX3_debtOf_17 : decode cX3_debtOf 17 = .ok (.invokevirtual 223, 3) := by decide +kernel
theorem dX3_debtOf_20 : decode cX3_debtOf 20 = .ok (.aload_n 1, 1) := by decide +kernel
theorem dX3_debtOf_21 : decode cX3_debtOf 21 = .ok (.getfield 226, 3) := by decide +kernel
theorem dX3_debtOf_24 : decode cX3_debtOf 24 = .ok (.isub, 1) := by decide +kernel
theorem dX3_debtOf_25 : decode cX3_debtOf 25 = .ok (.i2l, 1) := by decide +kernel
theorem dX3_debtOf_26 : decode cX3_debtOf 26 = .ok (.lmul, 1) := by decide +kernel
theorem dX3_debtOf_27 : decode cX3_debtOf 27 = .ok (.lstore 4, 2) := by decide +kernel
theorem dX3_debtOf_29 : decode cX3_debtOf 29 = .ok (.lload_n 2, 1) := by decide +kernel
theorem dX3_debtOf_30 : decode cX3_debtOf 30 = .ok (.ldc2_w 211, 3) := by decide +kernel
theorem dX3_debtOf_33 : decode cX3_debtOf 33 = .ok (.lcmp, 1) := by decide +kernel
theorem dX3_debtOf_34 : decode cX3_debtOf 34 = .ok (.ifCond .gt 12, 3) := by decide +kernel
theorem dX3_debtOf_37 : decode cX3_debtOf 37 = .ok (.lload 4, 2) := by decide +kernel
theorem dX3_debtOf_39 : decode cX3_debtOf 39 = .ok (.ldc2_w 211, 3) := by decide +kernel
theorem dX3_debtOf_42 : decode cX3_debtOf 42 = .ok (.lcmp, 1) := by decide +kernel
theorem dX3_debtOf_43 : decode cX3_debtOf 43 = .ok (.ifCond .le 6, 3) := by decide +kernel
theorem dX3_debtOf_46 : decode cX3_debtOf 46 = .ok (.ldc 235, 2) := by decide +kernel
theorem dX3_debtOf_48 : decode cX3_debtOf 48 = .ok (.ireturn, 1) := by decide +kernel
theorem dX3_debtOf_49 : decode cX3_debtOf 49 = .ok (.aload_n 1, 1) := by decide +kernel
theorem dX3_debtOf_50 : decode cX3_debtOf 50 = .ok (.getfield 220, 3) := by decide +kernel
theorem dX3_debtOf_53 : decode cX3_debtOf 53 = .ok (.i2l, 1) := by decide +kernel
theorem dX3_debtOf_54 : decode cX3_debtOf 54 = .ok (.lload 4, 2) := by decide +kernel
theorem dX3_debtOf_56 : decode cX3_debtOf 56 = .ok (.ldc2_w 236, 3) := by decide +kernel
theorem dX3_debtOf_59 : decode cX3_debtOf 59 = .ok (.ldiv, 1) := by decide +kernel
theorem dX3_debtOf_60 : decode cX3_debtOf 60 = .ok (.ladd, 1) := by decide +kernel
theorem dX3_debtOf_61 : decode cX3_debtOf 61 = .ok (.lstore 6, 2) := by decide +kernel
theorem dX3_debtOf_63 : decode cX3_debtOf 63 = .ok (.lload 6, 2) := by decide +kernel
theorem dX3_debtOf_65 : decode cX3_debtOf 65 = .ok (.ldc2_w 211, 3) := by decide +kernel
theorem dX3_debtOf_68 : decode cX3_debtOf 68 = .ok (.lcmp, 1) := by decide +kernel
theorem dX3_debtOf_69 : decode cX3_debtOf 69 = .ok (.ifCond .le 8, 3) := by decide +kernel
theorem dX3_debtOf_72 : decode cX3_debtOf 72 = .ok (.ldc 235, 2) := by decide +kernel
theorem dX3_debtOf_74 : decode cX3_debtOf 74 = .ok (.goto 6, 3) := by decide +kernel
theorem dX3_debtOf_77 : decode cX3_debtOf 77 = .ok (.lload 6, 2) := by decide +kernel
theorem dX3_debtOf_79 : decode cX3_debtOf 79 = .ok (.l2i, 1) := by decide +kernel
theorem dX3_debtOf_80 : decode cX3_debtOf 80 = .ok (.ireturn, 1) := by decide +kernel
theorem dX3_redeemPledge_0 : decode cX3_redeemPledge 0 = .ok (.aload_n 0, 1) := by decide +kernel
theorem dX3_redeemPledge_1 : decode cX3_redeemPledge 1 = .ok (.iload_n 1, 1) := by decide +kernel
theorem dX3_redeemPledge_2 : decode cX3_redeemPledge 2 = .ok (.invokevirtual 149, 3) := by decide +kernel
theorem dX3_redeemPledge_5 : decode cX3_redeemPledge 5 = .ok (.ifCond .ne 6, 3) := by decide +kernel
theorem dX3_redeemPledge_8 : decode cX3_redeemPledge 8 = .ok (.ldc 120, 2) := by decide +kernel
theorem dX3_redeemPledge_10 : decode cX3_redeemPledge 10 = .ok (.ireturn, 1) := by decide +kernel
theorem dX3_redeemPledge_11 : decode cX3_redeemPledge 11 = .ok (.aload_n 0, 1) := by decide +kernel
theorem dX3_redeemPledge_12 : decode cX3_redeemPledge 12 = .ok (.getfield 43, 3) := by decide +kernel
theorem dX3_redeemPledge_15 : decode cX3_redeemPledge 15 = .ok (.iload_n 1, 1) := by decide +kernel
theorem dX3_redeemPledge_16 : decode cX3_redeemPledge 16 = .ok (.aaload, 1) := by decide +kernel
theorem dX3_redeemPledge_17 : decode cX3_redeemPledge 17 = .ok (.astore_n 2, 1) := by decide +kernel
theorem dX3_redeemPledge_18 : decode cX3_redeemPledge 18 = .ok (.aload_n 2, 1) := by decide +kernel
theorem dX3_redeemPledge_19 : decode cX3_redeemPledge 19 = .ok (.invokevirtual 163, 3) := by decide +kernel
theorem dX3_redeemPledge_22 : decode cX3_redeemPledge 22 = .ok (.ifCond .eq 14, 3) := by decide +kernel
theorem dX3_redeemPledge_25 : decode cX3_redeemPledge 25 = .ok (.aload_n 0, 1) := by decide +kernel
theorem dX3_redeemPledge_26 : decode cX3_redeemPledge 26 = .ok (.aload_n 2, 1) := by decide +kernel
theorem dX3_redeemPledge_27 : decode cX3_redeemPledge 27 = .ok (.getfield 203, 3) := by decide +kernel
theorem dX3_redeemPledge_30 : decode cX3_redeemPledge 30 = .ok (.invokevirtual 138, 3) := by decide +kernel
theorem dX3_redeemPledge_33 : decode cX3_redeemPledge 33 = .ok (.ifCond .ne 6, 3) := by decide +kernel
theorem dX3_redeemPledge_36 : decode cX3_redeemPledge 36 = .ok (.ldc 155, 2) := by decide +kernel
theorem dX3_redeemPledge_38 : decode cX3_redeemPledge 38 = .ok (.ireturn, 1) := by decide +kernel
theorem dX3_redeemPledge_39 : decode cX3_redeemPledge 39 = .ok (.aload_n 0, 1) := by decide +kernel
theorem dX3_redeemPledge_40 : decode cX3_redeemPledge 40 = .ok (.getfield 37, 3) := by decide +kernel
theorem dX3_redeemPledge_43 : decode cX3_redeemPledge 43 = .ok (.aload_n 2, 1) := by decide +kernel
theorem dX3_redeemPledge_44 : decode cX3_redeemPledge 44 = .ok (.getfield 203, 3) := by decide +kernel
theorem dX3_redeemPledge_47 : decode cX3_redeemPledge 47 = .ok (.aaload, 1) := by decide +kernel
theorem dX3_redeemPledge_48 : decode cX3_redeemPledge 48 = .ok (.astore_n 3, 1) := by decide +kernel
theorem dX3_redeemPledge_49 : decode cX3_redeemPledge 49 = .ok (.aload_n 0, 1) := by decide +kernel
theorem dX3_redeemPledge_50 : decode cX3_redeemPledge 50 = .ok (.aload_n 2, 1) := by decide +kernel
theorem dX3_redeemPledge_51 : decode cX3_redeemPledge 51 = .ok (.invokevirtual 238, 3) := by decide +kernel
theorem dX3_redeemPledge_54 : decode cX3_redeemPledge 54 = .ok (.istore 4, 2) := by decide +kernel
theorem dX3_redeemPledge_56 : decode cX3_redeemPledge 56 = .ok (.iload 4, 2) := by decide +kernel
theorem dX3_redeemPledge_58 : decode cX3_redeemPledge 58 = .ok (.ldc 235, 2) := by decide +kernel
theorem dX3_redeemPledge_60 : decode cX3_redeemPledge 60 = .ok (.if_icmp .eq 12, 3) := by decide +kernel
theorem dX3_redeemPledge_63 : decode cX3_redeemPledge 63 = .ok (.aload_n 3, 1) := by decide +kernel
theorem dX3_redeemPledge_64 : decode cX3_redeemPledge 64 = .ok (.getfield 132, 3) := by decide +kernel
theorem dX3_redeemPledge_67 : decode cX3_redeemPledge 67 = .ok (.iload 4, 2) := by decide +kernel
theorem dX3_redeemPledge_69 : decode cX3_redeemPledge 69 = .ok (.if_icmp .ge 6, 3) := by decide +kernel
theorem dX3_redeemPledge_72 : decode cX3_redeemPledge 72 = .ok (.ldc 155, 2) := by decide +kernel
theorem dX3_redeemPledge_74 : decode cX3_redeemPledge 74 = .ok (.ireturn, 1) := by decide +kernel
theorem dX3_redeemPledge_75 : decode cX3_redeemPledge 75 = .ok (.aload_n 3, 1) := by decide +kernel
theorem dX3_redeemPledge_76 : decode cX3_redeemPledge 76 = .ok (.dup, 1) := by decide +kernel
theorem dX3_redeemPledge_77 : decode cX3_redeemPledge 77 = .ok (.getfield 132, 3) := by decide +kernel
theorem dX3_redeemPledge_80 : decode cX3_redeemPledge 80 = .ok (.iload 4, 2) := by decide +kernel
theorem dX3_redeemPledge_82 : decode cX3_redeemPledge 82 = .ok (.isub, 1) := by decide +kernel
theorem dX3_redeemPledge_83 : decode cX3_redeemPledge 83 = .ok (.putfield 132, 3) := by decide +kernel
theorem dX3_redeemPledge_86 : decode cX3_redeemPledge 86 = .ok (.aload_n 2, 1) := by decide +kernel
theorem dX3_redeemPledge_87 : decode cX3_redeemPledge 87 = .ok (.invokevirtual 241, 3) := by decide +kernel
theorem dX3_redeemPledge_90 : decode cX3_redeemPledge 90 = .ok (.aload_n 3, 1) := by decide +kernel
theorem dX3_redeemPledge_91 : decode cX3_redeemPledge 91 = .ok (.getfield 132, 3) := by decide +kernel
theorem dX3_redeemPledge_94 : decode cX3_redeemPledge 94 = .ok (.ireturn, 1) := by decide +kernel
theorem dX3_sackOfPledge_0 : decode cX3_sackOfPledge 0 = .ok (.iconst 0, 1) := by decide +kernel
theorem dX3_sackOfPledge_1 : decode cX3_sackOfPledge 1 = .ok (.istore_n 2, 1) := by decide +kernel
theorem dX3_sackOfPledge_2 : decode cX3_sackOfPledge 2 = .ok (.iload_n 2, 1) := by decide +kernel
theorem dX3_sackOfPledge_3 : decode cX3_sackOfPledge 3 = .ok (.aload_n 0, 1) := by decide +kernel
theorem dX3_sackOfPledge_4 : decode cX3_sackOfPledge 4 = .ok (.getfield 97, 3) := by decide +kernel
theorem dX3_sackOfPledge_7 : decode cX3_sackOfPledge 7 = .ok (.if_icmp .ge 32, 3) := by decide +kernel
theorem dX3_sackOfPledge_10 : decode cX3_sackOfPledge 10 = .ok (.aload_n 0, 1) := by decide +kernel
theorem dX3_sackOfPledge_11 : decode cX3_sackOfPledge 11 = .ok (.getfield 43, 3) := by decide +kernel
theorem dX3_sackOfPledge_14 : decode cX3_sackOfPledge 14 = .ok (.iload_n 2, 1) := by decide +kernel
theorem dX3_sackOfPledge_15 : decode cX3_sackOfPledge 15 = .ok (.aaload, 1) := by decide +kernel
theorem dX3_sackOfPledge_16 : decode cX3_sackOfPledge 16 = .ok (.invokevirtual 163, 3) := by decide +kernel
theorem dX3_sackOfPledge_19 : decode cX3_sackOfPledge 19 = .ok (.ifCond .eq 14, 3) := by decide +kernel
theorem dX3_sackOfPledge_22 : decode cX3_sackOfPledge 22 = .ok (.aload_n 0, 1) := by decide +kernel
theorem dX3_sackOfPledge_23 : decode cX3_sackOfPledge 23 = .ok (.iload_n 2, 1) := by decide +kernel
theorem dX3_sackOfPledge_24 : decode cX3_sackOfPledge 24 = .ok (.invokevirtual 244, 3) := by decide +kernel
theorem dX3_sackOfPledge_27 : decode cX3_sackOfPledge 27 = .ok (.iload_n 1, 1) := by decide +kernel
theorem dX3_sackOfPledge_28 : decode cX3_sackOfPledge 28 = .ok (.if_icmp .ne 5, 3) := by decide +kernel
theorem dX3_sackOfPledge_31 : decode cX3_sackOfPledge 31 = .ok (.iload_n 2, 1) := by decide +kernel
theorem dX3_sackOfPledge_32 : decode cX3_sackOfPledge 32 = .ok (.ireturn, 1) := by decide +kernel
theorem dX3_sackOfPledge_33 : decode cX3_sackOfPledge 33 = .ok (.iinc 2 1, 3) := by decide +kernel
theorem dX3_sackOfPledge_36 : decode cX3_sackOfPledge 36 = .ok (.goto (-34), 3) := by decide +kernel
theorem dX3_sackOfPledge_39 : decode cX3_sackOfPledge 39 = .ok (.iconst (-1), 1) := by decide +kernel
theorem dX3_sackOfPledge_40 : decode cX3_sackOfPledge 40 = .ok (.ireturn, 1) := by decide +kernel
theorem dX3_pledgesAheadOf_0 : decode cX3_pledgesAheadOf 0 = .ok (.aload_n 0, 1) := by decide +kernel
theorem dX3_pledgesAheadOf_1 : decode cX3_pledgesAheadOf 1 = .ok (.getfield 43, 3) := by decide +kernel
theorem dX3_pledgesAheadOf_4 : decode cX3_pledgesAheadOf 4 = .ok (.iload_n 1, 1) := by decide +kernel
theorem dX3_pledgesAheadOf_5 : decode cX3_pledgesAheadOf 5 = .ok (.aaload, 1) := by decide +kernel
theorem dX3_pledgesAheadOf_6 : decode cX3_pledgesAheadOf 6 = .ok (.getfield 229, 3) := by decide +kernel
theorem dX3_pledgesAheadOf_9 : decode cX3_pledgesAheadOf 9 = .ok (.istore_n 2, 1) := by decide +kernel
theorem dX3_pledgesAheadOf_10 : decode cX3_pledgesAheadOf 10 = .ok (.iconst 0, 1) := by decide +kernel
theorem dX3_pledgesAheadOf_11 : decode cX3_pledgesAheadOf 11 = .ok (.istore_n 3, 1) := by decide +kernel
theorem dX3_pledgesAheadOf_12 : decode cX3_pledgesAheadOf 12 = .ok (.iconst 0, 1) := by decide +kernel
theorem dX3_pledgesAheadOf_13 : decode cX3_pledgesAheadOf 13 = .ok (.istore 4, 2) := by decide +kernel
theorem dX3_pledgesAheadOf_15 : decode cX3_pledgesAheadOf 15 = .ok (.iload 4, 2) := by decide +kernel
theorem dX3_pledgesAheadOf_17 : decode cX3_pledgesAheadOf 17 = .ok (.aload_n 0, 1) := by decide +kernel
theorem dX3_pledgesAheadOf_18 : decode cX3_pledgesAheadOf 18 = .ok (.getfield 97, 3) := by decide +kernel
theorem dX3_pledgesAheadOf_21 : decode cX3_pledgesAheadOf 21 = .ok (.if_icmp .ge 71, 3) := by decide +kernel
theorem dX3_pledgesAheadOf_24 : decode cX3_pledgesAheadOf 24 = .ok (.aload_n 0, 1) := by decide +kernel
theorem dX3_pledgesAheadOf_25 : decode cX3_pledgesAheadOf 25 = .ok (.getfield 43, 3) := by decide +kernel
theorem dX3_pledgesAheadOf_28 : decode cX3_pledgesAheadOf 28 = .ok (.iload 4, 2) := by decide +kernel
theorem dX3_pledgesAheadOf_30 : decode cX3_pledgesAheadOf 30 = .ok (.aaload, 1) := by decide +kernel
theorem dX3_pledgesAheadOf_31 : decode cX3_pledgesAheadOf 31 = .ok (.getfield 229, 3) := by decide +kernel
theorem dX3_pledgesAheadOf_34 : decode cX3_pledgesAheadOf 34 = .ok (.iload_n 2, 1) := by decide +kernel
theorem dX3_pledgesAheadOf_35 : decode cX3_pledgesAheadOf 35 = .ok (.if_icmp .lt 23, 3) := by decide +kernel
theorem dX3_pledgesAheadOf_38 : decode cX3_pledgesAheadOf 38 = .ok (.aload_n 0, 1) := by decide +kernel
theorem dX3_pledgesAheadOf_39 : decode cX3_pledgesAheadOf 39 = .ok (.getfield 43, 3) := by decide +kernel
theorem dX3_pledgesAheadOf_42 : decode cX3_pledgesAheadOf 42 = .ok (.iload 4, 2) := by decide +kernel
theorem dX3_pledgesAheadOf_44 : decode cX3_pledgesAheadOf 44 = .ok (.aaload, 1) := by decide +kernel
theorem dX3_pledgesAheadOf_45 : decode cX3_pledgesAheadOf 45 = .ok (.getfield 229, 3) := by decide +kernel
theorem dX3_pledgesAheadOf_48 : decode cX3_pledgesAheadOf 48 = .ok (.iload_n 2, 1) := by decide +kernel
theorem dX3_pledgesAheadOf_49 : decode cX3_pledgesAheadOf 49 = .ok (.if_icmp .ne 13, 3) := by decide +kernel
theorem dX3_pledgesAheadOf_52 : decode cX3_pledgesAheadOf 52 = .ok (.iload 4, 2) := by decide +kernel
theorem dX3_pledgesAheadOf_54 : decode cX3_pledgesAheadOf 54 = .ok (.iload_n 1, 1) := by decide +kernel
theorem dX3_pledgesAheadOf_55 : decode cX3_pledgesAheadOf 55 = .ok (.if_icmp .ge 7, 3) := by decide +kernel
theorem dX3_pledgesAheadOf_58 : decode cX3_pledgesAheadOf 58 = .ok (.iconst 1, 1) := by decide +kernel
theorem dX3_pledgesAheadOf_59 : decode cX3_pledgesAheadOf 59 = .ok (.goto 4, 3) := by decide +kernel
theorem dX3_pledgesAheadOf_62 : decode cX3_pledgesAheadOf 62 = .ok (.iconst 0, 1) := by decide +kernel
theorem dX3_pledgesAheadOf_63 : decode cX3_pledgesAheadOf 63 = .ok (.istore 5, 2) := by decide +kernel
theorem dX3_pledgesAheadOf_65 : decode cX3_pledgesAheadOf 65 = .ok (.aload_n 0, 1) := by decide +kernel
theorem dX3_pledgesAheadOf_66 : decode cX3_pledgesAheadOf 66 = .ok (.getfield 43, 3) := by decide +kernel
theorem dX3_pledgesAheadOf_69 : decode cX3_pledgesAheadOf 69 = .ok (.iload 4, 2) := by decide +kernel
theorem dX3_pledgesAheadOf_71 : decode cX3_pledgesAheadOf 71 = .ok (.aaload, 1) := by decide +kernel
theorem dX3_pledgesAheadOf_72 : decode cX3_pledgesAheadOf 72 = .ok (.invokevirtual 163, 3) := by decide +kernel
theorem dX3_pledgesAheadOf_75 : decode cX3_pledgesAheadOf 75 = .ok (.ifCond .eq 11, 3) := by decide +kernel
theorem dX3_pledgesAheadOf_78 : decode cX3_pledgesAheadOf 78 = .ok (.iload 5, 2) := by decide +kernel
theorem dX3_pledgesAheadOf_80 : decode cX3_pledgesAheadOf 80 = .ok (.ifCond .eq 6, 3) := by decide +kernel
theorem dX3_pledgesAheadOf_83 : decode cX3_pledgesAheadOf 83 = .ok (.iinc 3 1, 3) := by decide +kernel
theorem dX3_pledgesAheadOf_86 : decode cX3_pledgesAheadOf 86 = .ok (.iinc 4 1, 3) := by decide +kernel
theorem dX3_pledgesAheadOf_89 : decode cX3_pledgesAheadOf 89 = .ok (.goto (-74), 3) := by decide +kernel
theorem dX3_pledgesAheadOf_92 : decode cX3_pledgesAheadOf 92 = .ok (.iload_n 3, 1) := by decide +kernel
theorem dX3_pledgesAheadOf_93 : decode cX3_pledgesAheadOf 93 = .ok (.ireturn, 1) := by decide +kernel
theorem dX3_tellPledge_0 : decode cX3_tellPledge 0 = .ok (.aload_n 0, 1) := by decide +kernel
theorem dX3_tellPledge_1 : decode cX3_tellPledge 1 = .ok (.getfield 43, 3) := by decide +kernel
theorem dX3_tellPledge_4 : decode cX3_tellPledge 4 = .ok (.iload_n 1, 1) := by decide +kernel
theorem dX3_tellPledge_5 : decode cX3_tellPledge 5 = .ok (.aaload, 1) := by decide +kernel
theorem dX3_tellPledge_6 : decode cX3_tellPledge 6 = .ok (.astore_n 3, 1) := by decide +kernel
theorem dX3_tellPledge_7 : decode cX3_tellPledge 7 = .ok (.iload_n 2, 1) := by decide +kernel
theorem dX3_tellPledge_8 : decode cX3_tellPledge 8 = .ok (.tableswitch 49 0 3 #[32, 34, 39, 44], 32) := by decide +kernel
theorem dX3_tellPledge_40 : decode cX3_tellPledge 40 = .ok (.iload_n 1, 1) := by decide +kernel
theorem dX3_tellPledge_41 : decode cX3_tellPledge 41 = .ok (.ireturn, 1) := by decide +kernel
theorem dX3_tellPledge_42 : decode cX3_tellPledge 42 = .ok (.aload_n 3, 1) := by decide +kernel
theorem dX3_tellPledge_43 : decode cX3_tellPledge 43 = .ok (.getfield 217, 3) := by decide +kernel
theorem dX3_tellPledge_46 : decode cX3_tellPledge 46 = .ok (.ireturn, 1) := by decide +kernel
theorem dX3_tellPledge_47 : decode cX3_tellPledge 47 = .ok (.aload_n 3, 1) := by decide +kernel
theorem dX3_tellPledge_48 : decode cX3_tellPledge 48 = .ok (.getfield 220, 3) := by decide +kernel
theorem dX3_tellPledge_51 : decode cX3_tellPledge 51 = .ok (.ireturn, 1) := by decide +kernel
theorem dX3_tellPledge_52 : decode cX3_tellPledge 52 = .ok (.aload_n 3, 1) := by decide +kernel
theorem dX3_tellPledge_53 : decode cX3_tellPledge 53 = .ok (.getfield 226, 3) := by decide +kernel
theorem dX3_tellPledge_56 : decode cX3_tellPledge 56 = .ok (.ireturn, 1) := by decide +kernel
theorem dX3_tellPledge_57 : decode cX3_tellPledge 57 = .ok (.aload_n 3, 1) := by decide +kernel
theorem dX3_tellPledge_58 : decode cX3_tellPledge 58 = .ok (.getfield 229, 3) := by decide +kernel
theorem dX3_tellPledge_61 : decode cX3_tellPledge 61 = .ok (.ireturn, 1) := by decide +kernel
theorem dX3_pledgesOf_0 : decode cX3_pledgesOf 0 = .ok (.iconst 0, 1) := by decide +kernel
theorem dX3_pledgesOf_1 : decode cX3_pledgesOf 1 = .ok (.istore_n 2, 1) := by decide +kernel
theorem dX3_pledgesOf_2 : decode cX3_pledgesOf 2 = .ok (.iconst 0, 1) := by decide +kernel
theorem dX3_pledgesOf_3 : decode cX3_pledgesOf 3 = .ok (.istore_n 3, 1) := by decide +kernel
theorem dX3_pledgesOf_4 : decode cX3_pledgesOf 4 = .ok (.iload_n 3, 1) := by decide +kernel
theorem dX3_pledgesOf_5 : decode cX3_pledgesOf 5 = .ok (.aload_n 0, 1) := by decide +kernel
theorem dX3_pledgesOf_6 : decode cX3_pledgesOf 6 = .ok (.getfield 97, 3) := by decide +kernel
theorem dX3_pledgesOf_9 : decode cX3_pledgesOf 9 = .ok (.if_icmp .ge 38, 3) := by decide +kernel
theorem dX3_pledgesOf_12 : decode cX3_pledgesOf 12 = .ok (.aload_n 0, 1) := by decide +kernel
theorem dX3_pledgesOf_13 : decode cX3_pledgesOf 13 = .ok (.getfield 43, 3) := by decide +kernel
theorem dX3_pledgesOf_16 : decode cX3_pledgesOf 16 = .ok (.iload_n 3, 1) := by decide +kernel
theorem dX3_pledgesOf_17 : decode cX3_pledgesOf 17 = .ok (.aaload, 1) := by decide +kernel
theorem dX3_pledgesOf_18 : decode cX3_pledgesOf 18 = .ok (.invokevirtual 163, 3) := by decide +kernel
theorem dX3_pledgesOf_21 : decode cX3_pledgesOf 21 = .ok (.ifCond .eq 20, 3) := by decide +kernel
theorem dX3_pledgesOf_24 : decode cX3_pledgesOf 24 = .ok (.aload_n 0, 1) := by decide +kernel
theorem dX3_pledgesOf_25 : decode cX3_pledgesOf 25 = .ok (.getfield 43, 3) := by decide +kernel
theorem dX3_pledgesOf_28 : decode cX3_pledgesOf 28 = .ok (.iload_n 3, 1) := by decide +kernel
theorem dX3_pledgesOf_29 : decode cX3_pledgesOf 29 = .ok (.aaload, 1) := by decide +kernel
theorem dX3_pledgesOf_30 : decode cX3_pledgesOf 30 = .ok (.iload_n 1, 1) := by decide +kernel
theorem dX3_pledgesOf_31 : decode cX3_pledgesOf 31 = .ok (.iconst (-1), 1) := by decide +kernel
theorem dX3_pledgesOf_32 : decode cX3_pledgesOf 32 = .ok (.invokevirtual 182, 3) := by decide +kernel
theorem dX3_pledgesOf_35 : decode cX3_pledgesOf 35 = .ok (.ifCond .eq 6, 3) := by decide +kernel
theorem dX3_pledgesOf_38 : decode cX3_pledgesOf 38 = .ok (.iinc 2 1, 3) := by decide +kernel
theorem dX3_pledgesOf_41 : decode cX3_pledgesOf 41 = .ok (.iinc 3 1, 3) := by decide +kernel
theorem dX3_pledgesOf_44 : decode cX3_pledgesOf 44 = .ok (.goto (-40), 3) := by decide +kernel
theorem dX3_pledgesOf_47 : decode cX3_pledgesOf 47 = .ok (.iload_n 2, 1) := by decide +kernel
theorem dX3_pledgesOf_48 : decode cX3_pledgesOf 48 = .ok (.ireturn, 1) := by decide +kernel
theorem dX3_dropOldPledges_0 : decode cX3_dropOldPledges 0 = .ok (.iconst 0, 1) := by decide +kernel
theorem dX3_dropOldPledges_1 : decode cX3_dropOldPledges 1 = .ok (.istore_n 1, 1) := by decide +kernel
theorem dX3_dropOldPledges_2 : decode cX3_dropOldPledges 2 = .ok (.iload_n 1, 1) := by decide +kernel
theorem dX3_dropOldPledges_3 : decode cX3_dropOldPledges 3 = .ok (.aload_n 0, 1) := by decide +kernel
theorem dX3_dropOldPledges_4 : decode cX3_dropOldPledges 4 = .ok (.getfield 97, 3) := by decide +kernel
theorem dX3_dropOldPledges_7 : decode cX3_dropOldPledges 7 = .ok (.if_icmp .ge 46, 3) := by decide +kernel
theorem dX3_dropOldPledges_10 : decode cX3_dropOldPledges 10 = .ok (.aload_n 0, 1) := by decide +kernel
theorem dX3_dropOldPledges_11 : decode cX3_dropOldPledges 11 = .ok (.getfield 43, 3) := by decide +kernel
theorem dX3_dropOldPledges_14 : decode cX3_dropOldPledges 14 = .ok (.iload_n 1, 1) := by decide +kernel
theorem dX3_dropOldPledges_15 : decode cX3_dropOldPledges 15 = .ok (.aaload, 1) := by decide +kernel
theorem dX3_dropOldPledges_16 : decode cX3_dropOldPledges 16 = .ok (.invokevirtual 163, 3) := by decide +kernel
theorem dX3_dropOldPledges_19 : decode cX3_dropOldPledges 19 = .ok (.ifCond .eq 28, 3) := by decide +kernel
theorem dX3_dropOldPledges_22 : decode cX3_dropOldPledges 22 = .ok (.aload_n 0, 1) := by decide +kernel
theorem dX3_dropOldPledges_23 : decode cX3_dropOldPledges 23 = .ok (.getfield 43, 3) := by decide +kernel
theorem dX3_dropOldPledges_26 : decode cX3_dropOldPledges 26 = .ok (.iload_n 1, 1) := by decide +kernel
theorem dX3_dropOldPledges_27 : decode cX3_dropOldPledges 27 = .ok (.aaload, 1) := by decide +kernel
theorem dX3_dropOldPledges_28 : decode cX3_dropOldPledges 28 = .ok (.getfield 229, 3) := by decide +kernel
theorem dX3_dropOldPledges_31 : decode cX3_dropOldPledges 31 = .ok (.aload_n 0, 1) := by decide +kernel
theorem dX3_dropOldPledges_32 : decode cX3_dropOldPledges 32 = .ok (.invokevirtual 223, 3) := by decide +kernel
theorem dX3_dropOldPledges_35 : decode cX3_dropOldPledges 35 = .ok (.if_icmp .ge 12, 3) := by decide +kernel
theorem dX3_dropOldPledges_38 : decode cX3_dropOldPledges 38 = .ok (.aload_n 0, 1) := by decide +kernel
theorem dX3_dropOldPledges_39 : decode cX3_dropOldPledges 39 = .ok (.getfield 43, 3) := by decide +kernel
theorem dX3_dropOldPledges_42 : decode cX3_dropOldPledges 42 = .ok (.iload_n 1, 1) := by decide +kernel
theorem dX3_dropOldPledges_43 : decode cX3_dropOldPledges 43 = .ok (.aaload, 1) := by decide +kernel
theorem dX3_dropOldPledges_44 : decode cX3_dropOldPledges 44 = .ok (.invokevirtual 247, 3) := by decide +kernel
theorem dX3_dropOldPledges_47 : decode cX3_dropOldPledges 47 = .ok (.iinc 1 1, 3) := by decide +kernel
theorem dX3_dropOldPledges_50 : decode cX3_dropOldPledges 50 = .ok (.goto (-48), 3) := by decide +kernel
theorem dX3_dropOldPledges_53 : decode cX3_dropOldPledges 53 = .ok (.return_, 1) := by decide +kernel
theorem dX3_today_0 : decode cX3_today 0 = .ok (.aload_n 0, 1) := by decide +kernel
theorem dX3_today_1 : decode cX3_today 1 = .ok (.getfield 67, 3) := by decide +kernel
theorem dX3_today_4 : decode cX3_today 4 = .ok (.bipush 96, 2) := by decide +kernel
theorem dX3_today_6 : decode cX3_today 6 = .ok (.idiv, 1) := by decide +kernel
theorem dX3_today_7 : decode cX3_today 7 = .ok (.ireturn, 1) := by decide +kernel
theorem dX3_letPass_0 : decode cX3_letPass 0 = .ok (.iload_n 1, 1) := by decide +kernel
theorem dX3_letPass_1 : decode cX3_letPass 1 = .ok (.iconst 1, 1) := by decide +kernel
theorem dX3_letPass_2 : decode cX3_letPass 2 = .ok (.sipush 200, 3) := by decide +kernel
theorem dX3_letPass_5 : decode cX3_letPass 5 = .ok (.invokestatic 110, 3) := by decide +kernel
theorem dX3_letPass_8 : decode cX3_letPass 8 = .ok (.ifCond .ne 6, 3) := by decide +kernel
theorem dX3_letPass_11 : decode cX3_letPass 11 = .ok (.ldc 120, 2) := by decide +kernel
theorem dX3_letPass_13 : decode cX3_letPass 13 = .ok (.ireturn, 1) := by decide +kernel
theorem dX3_letPass_14 : decode cX3_letPass 14 = .ok (.aload_n 0, 1) := by decide +kernel
theorem dX3_letPass_15 : decode cX3_letPass 15 = .ok (.getfield 67, 3) := by decide +kernel
theorem dX3_letPass_18 : decode cX3_letPass 18 = .ok (.iload_n 1, 1) := by decide +kernel
theorem dX3_letPass_19 : decode cX3_letPass 19 = .ok (.iadd, 1) := by decide +kernel
theorem dX3_letPass_20 : decode cX3_letPass 20 = .ok (.sipush 10000, 3) := by decide +kernel
theorem dX3_letPass_23 : decode cX3_letPass 23 = .ok (.if_icmp .le 6, 3) := by decide +kernel
theorem dX3_letPass_26 : decode cX3_letPass 26 = .ok (.ldc 122, 2) := by decide +kernel
theorem dX3_letPass_28 : decode cX3_letPass 28 = .ok (.ireturn, 1) := by decide +kernel
theorem dX3_letPass_29 : decode cX3_letPass 29 = .ok (.iconst 0, 1) := by decide +kernel
theorem dX3_letPass_30 : decode cX3_letPass 30 = .ok (.istore_n 2, 1) := by decide +kernel
theorem dX3_letPass_31 : decode cX3_letPass 31 = .ok (.iload_n 2, 1) := by decide +kernel
theorem dX3_letPass_32 : decode cX3_letPass 32 = .ok (.iload_n 1, 1) := by decide +kernel
theorem dX3_letPass_33 : decode cX3_letPass 33 = .ok (.if_icmp .ge 13, 3) := by decide +kernel
theorem dX3_letPass_36 : decode cX3_letPass 36 = .ok (.aload_n 0, 1) := by decide +kernel
theorem dX3_letPass_37 : decode cX3_letPass 37 = .ok (.invokevirtual 250, 3) := by decide +kernel
theorem dX3_letPass_40 : decode cX3_letPass 40 = .ok (.iinc 2 1, 3) := by decide +kernel
theorem dX3_letPass_43 : decode cX3_letPass 43 = .ok (.goto (-12), 3) := by decide +kernel
theorem dX3_letPass_46 : decode cX3_letPass 46 = .ok (.aload_n 0, 1) := by decide +kernel
theorem dX3_letPass_47 : decode cX3_letPass 47 = .ok (.getfield 67, 3) := by decide +kernel
theorem dX3_letPass_50 : decode cX3_letPass 50 = .ok (.ireturn, 1) := by decide +kernel
theorem dX3_step_0 : decode cX3_step 0 = .ok (.aload_n 0, 1) := by decide +kernel
theorem dX3_step_1 : decode cX3_step 1 = .ok (.dup, 1) := by decide +kernel
theorem dX3_step_2 : decode cX3_step 2 = .ok (.getfield 67, 3) := by decide +kernel
theorem dX3_step_5 : decode cX3_step 5 = .ok (.iconst 1, 1) := by decide +kernel
theorem dX3_step_6 : decode cX3_step 6 = .ok (.iadd, 1) := by decide +kernel
theorem dX3_step_7 : decode cX3_step 7 = .ok (.putfield 67, 3) := by decide +kernel
theorem dX3_step_10 : decode cX3_step 10 = .ok (.aload_n 0, 1) := by decide +kernel
theorem dX3_step_11 : decode cX3_step 11 = .ok (.getfield 67, 3) := by decide +kernel
theorem dX3_step_14 : decode cX3_step 14 = .ok (.bipush 96, 2) := by decide +kernel
theorem dX3_step_16 : decode cX3_step 16 = .ok (.irem, 1) := by decide +kernel
theorem dX3_step_17 : decode cX3_step 17 = .ok (.ifCond .ne 7, 3) := by decide +kernel
theorem dX3_step_20 : decode cX3_step 20 = .ok (.aload_n 0, 1) := by decide +kernel
theorem dX3_step_21 : decode cX3_step 21 = .ok (.invokevirtual 253, 3) := by decide +kernel
theorem dX3_step_24 : decode cX3_step 24 = .ok (.aload_n 0, 1) := by decide +kernel
theorem dX3_step_25 : decode cX3_step 25 = .ok (.aload_n 0, 1) := by decide +kernel
theorem dX3_step_26 : decode cX3_step 26 = .ok (.getfield 67, 3) := by decide +kernel
theorem dX3_step_29 : decode cX3_step 29 = .ok (.invokevirtual 256, 3) := by decide +kernel
theorem dX3_step_32 : decode cX3_step 32 = .ok (.istore_n 1, 1) := by decide +kernel
theorem dX3_step_33 : decode cX3_step 33 = .ok (.aload_n 0, 1) := by decide +kernel
theorem dX3_step_34 : decode cX3_step 34 = .ok (.iload_n 1, 1) := by decide +kernel
theorem dX3_step_35 : decode cX3_step 35 = .ok (.invokevirtual 259, 3) := by decide +kernel
theorem dX3_step_38 : decode cX3_step 38 = .ok (.aload_n 0, 1) := by decide +kernel
theorem dX3_step_39 : decode cX3_step 39 = .ok (.iload_n 1, 1) := by decide +kernel
theorem dX3_step_40 : decode cX3_step 40 = .ok (.invokevirtual 263, 3) := by decide +kernel
theorem dX3_step_43 : decode cX3_step 43 = .ok (.aload_n 0, 1) := by decide +kernel
theorem dX3_step_44 : decode cX3_step 44 = .ok (.iload_n 1, 1) := by decide +kernel
theorem dX3_step_45 : decode cX3_step 45 = .ok (.invokevirtual 266, 3) := by decide +kernel
theorem dX3_step_48 : decode cX3_step 48 = .ok (.return_, 1) := by decide +kernel
theorem dX3_seaAt_0 : decode cX3_seaAt 0 = .ok (.aload_n 0, 1) := by decide +kernel
theorem dX3_seaAt_1 : decode cX3_seaAt 1 = .ok (.getfield 18, 3) := by decide +kernel
theorem dX3_seaAt_4 : decode cX3_seaAt 4 = .ok (.iconst 4, 1) := by decide +kernel
theorem dX3_seaAt_5 : decode cX3_seaAt 5 = .ok (.iaload, 1) := by decide +kernel
theorem dX3_seaAt_6 : decode cX3_seaAt 6 = .ok (.istore_n 2, 1) := by decide +kernel
theorem dX3_seaAt_7 : decode cX3_seaAt 7 = .ok (.iload_n 1, 1) := by decide +kernel
theorem dX3_seaAt_8 : decode cX3_seaAt 8 = .ok (.iload_n 2, 1) := by decide +kernel
theorem dX3_seaAt_9 : decode cX3_seaAt 9 = .ok (.invokestatic 269, 3) := by decide +kernel
theorem dX3_seaAt_12 : decode cX3_seaAt 12 = .ok (.istore_n 3, 1) := by decide +kernel
theorem dX3_seaAt_13 : decode cX3_seaAt 13 = .ok (.iload_n 1, 1) := by decide +kernel
theorem dX3_seaAt_14 : decode cX3_seaAt 14 = .ok (.iload_n 3, 1) := by decide +kernel
theorem dX3_seaAt_15 : decode cX3_seaAt 15 = .ok (.iload_n 2, 1) := by decide +kernel
theorem dX3_seaAt_16 : decode cX3_seaAt 16 = .ok (.imul, 1) := by decide +kernel
theorem dX3_seaAt_17 : decode cX3_seaAt 17 = .ok (.isub, 1) := by decide +kernel
theorem dX3_seaAt_18 : decode cX3_seaAt 18 = .ok (.istore 4, 2) := by decide +kernel
theorem dX3_seaAt_20 : decode cX3_seaAt 20 = .ok (.iload_n 2, 1) := by decide +kernel
theorem dX3_seaAt_21 : decode cX3_seaAt 21 = .ok (.iconst 2, 1) := by decide +kernel
theorem dX3_seaAt_22 : decode cX3_seaAt 22 = .ok (.idiv, 1) := by decide +kernel
theorem dX3_seaAt_23 : decode cX3_seaAt 23 = .ok (.istore 5, 2) := by decide +kernel
theorem dX3_seaAt_25 : decode cX3_seaAt 25 = .ok (.aload_n 0, 1) := by decide +kernel
theorem dX3_seaAt_26 : decode cX3_seaAt 26 = .ok (.getfield 18, 3) := by decide +kernel
theorem dX3_seaAt_29 : decode cX3_seaAt 29 = .ok (.iconst 2, 1) := by decide +kernel
theorem dX3_seaAt_30 : decode cX3_seaAt 30 = .ok (.iaload, 1) := by decide +kernel
theorem dX3_seaAt_31 : decode cX3_seaAt 31 = .ok (.aload_n 0, 1) := by decide +kernel
theorem dX3_seaAt_32 : decode cX3_seaAt 32 = .ok (.getfield 18, 3) := by decide +kernel
theorem dX3_seaAt_35 : decode cX3_seaAt 35 = .ok (.iconst 3, 1) := by decide +kernel
theorem dX3_seaAt_36 : decode cX3_seaAt 36 = .ok (.iaload, 1) := by decide +kernel
theorem dX3_seaAt_37 : decode cX3_seaAt 37 = .ok (.iload_n 3, 1) := by decide +kernel
theorem dX3_seaAt_38 : decode cX3_seaAt 38 = .ok (.bipush 14, 2) := by decide +kernel
theorem dX3_seaAt_40 : decode cX3_seaAt 40 = .ok (.irem, 1) := by decide +kernel
theorem dX3_seaAt_41 : decode cX3_seaAt 41 = .ok (.bipush 7, 2) := by decide +kernel
theorem dX3_seaAt_43 : decode cX3_seaAt 43 = .ok (.isub, 1) := by decide +kernel
theorem dX3_seaAt_44 : decode cX3_seaAt 44 = .ok (.invokestatic 272, 3) := by decide +kernel
theorem dX3_seaAt_47 : decode cX3_seaAt 47 = .ok (.imul, 1) := by decide +kernel
theorem dX3_seaAt_48 : decode cX3_seaAt 48 = .ok (.bipush 7, 2) := by decide +kernel
theorem dX3_seaAt_50 : decode cX3_seaAt 50 = .ok (.idiv, 1) := by decide +kernel
theorem dX3_seaAt_51 : decode cX3_seaAt 51 = .ok (.iadd, 1) := by decide +kernel
theorem dX3_seaAt_52 : decode cX3_seaAt 52 = .ok (.istore 6, 2) := by decide +kernel
theorem dX3_seaAt_54 : decode cX3_seaAt 54 = .ok (.iload 4, 2) := by decide +kernel
theorem dX3_seaAt_56 : decode cX3_seaAt 56 = .ok (.iload 5, 2) := by decide +kernel
theorem dX3_seaAt_58 : decode cX3_seaAt 58 = .ok (.if_icmp .gt 16, 3) := by decide +kernel
theorem dX3_seaAt_61 : decode cX3_seaAt 61 = .ok (.iload 6, 2) := by decide +kernel
theorem dX3_seaAt_63 : decode cX3_seaAt 63 = .ok (.iload 4, 2) := by decide +kernel
theorem dX3_seaAt_65 : decode cX3_seaAt 65 = .ok (.imul, 1) := by decide +kernel
theorem dX3_seaAt_66 : decode cX3_seaAt 66 = .ok (.iload 5, 2) := by decide +kernel
theorem dX3_seaAt_68 : decode cX3_seaAt 68 = .ok (.invokestatic 269, 3) := by decide +kernel
theorem dX3_seaAt_71 : decode cX3_seaAt 71 = .ok (.goto 17, 3) := by decide +kernel
theorem dX3_seaAt_74 : decode cX3_seaAt 74 = .ok (.iload 6, 2) := by decide +kernel
theorem dX3_seaAt_76 : decode cX3_seaAt 76 = .ok (.iload_n 2, 1) := by decide +kernel
theorem dX3_seaAt_77 : decode cX3_seaAt 77 = .ok (.iload 4, 2) := by decide +kernel
theorem dX3_seaAt_79 : decode cX3_seaAt 79 = .ok (.isub, 1) := by decide +kernel
theorem dX3_seaAt_80 : decode cX3_seaAt 80 = .ok (.imul, 1) := by decide +kernel
theorem dX3_seaAt_81 : decode cX3_seaAt 81 = .ok (.iload_n 2, 1) := by decide +kernel
theorem dX3_seaAt_82 : decode cX3_seaAt 82 = .ok (.iload 5, 2) := by decide +kernel
theorem dX3_seaAt_84 : decode cX3_seaAt 84 = .ok (.isub, 1) := by decide +kernel
theorem dX3_seaAt_85 : decode cX3_seaAt 85 = .ok (.invokestatic 269, 3) := by decide +kernel
theorem dX3_seaAt_88 : decode cX3_seaAt 88 = .ok (.istore 7, 2) := by decide +kernel
theorem dX3_seaAt_90 : decode cX3_seaAt 90 = .ok (.aload_n 0, 1) := by decide +kernel
theorem dX3_seaAt_91 : decode cX3_seaAt 91 = .ok (.getfield 18, 3) := by decide +kernel
theorem dX3_seaAt_94 : decode cX3_seaAt 94 = .ok (.iconst 1, 1) := by decide +kernel
theorem dX3_seaAt_95 : decode cX3_seaAt 95 = .ok (.iaload, 1) := by decide +kernel
theorem dX3_seaAt_96 : decode cX3_seaAt 96 = .ok (.iload 7, 2) := by decide +kernel
theorem dX3_seaAt_98 : decode cX3_seaAt 98 = .ok (.iadd, 1) := by decide +kernel
theorem dX3_seaAt_99 : decode cX3_seaAt 99 = .ok (.ireturn, 1) := by decide +kernel
theorem dX3_stepsToHigh_0 : decode cX3_stepsToHigh 0 = .ok (.aload_n 0, 1) := by decide +kernel
theorem dX3_stepsToHigh_1 : decode cX3_stepsToHigh 1 = .ok (.getfield 18, 3) := by decide +kernel
theorem dX3_stepsToHigh_4 : decode cX3_stepsToHigh 4 = .ok (.iconst 4, 1) := by decide +kernel
theorem dX3_stepsToHigh_5 : decode cX3_stepsToHigh 5 = .ok (.iaload, 1) := by decide +kernel
theorem dX3_stepsToHigh_6 : decode cX3_stepsToHigh 6 = .ok (.istore_n 1, 1) := by decide +kernel
theorem dX3_stepsToHigh_7 : decode cX3_stepsToHigh 7 = .ok (.aload_n 0, 1) := by decide +kernel
theorem dX3_stepsToHigh_8 : decode cX3_stepsToHigh 8 = .ok (.getfield 67, 3) := by decide +kernel
theorem dX3_stepsToHigh_11 : decode cX3_stepsToHigh 11 = .ok (.aload_n 0, 1) := by decide +kernel
theorem dX3_stepsToHigh_12 : decode cX3_stepsToHigh 12 = .ok (.getfield 67, 3) := by decide +kernel
theorem dX3_stepsToHigh_15 : decode cX3_stepsToHigh 15 = .ok (.iload_n 1, 1) := by decide +kernel
theorem dX3_stepsToHigh_16 : decode cX3_stepsToHigh 16 = .ok (.invokestatic 269, 3) := by decide +kernel
theorem dX3_stepsToHigh_19 : decode cX3_stepsToHigh 19 = .ok (.iload_n 1, 1) := by decide +kernel
theorem dX3_stepsToHigh_20 : decode cX3_stepsToHigh 20 = .ok (.imul, 1) := by decide +kernel
theorem dX3_stepsToHigh_21 : decode cX3_stepsToHigh 21 = .ok (.isub, 1) := by decide +kernel
theorem dX3_stepsToHigh_22 : decode cX3_stepsToHigh 22 = .ok (.istore_n 2, 1) := by decide +kernel
theorem dX3_stepsToHigh_23 : decode cX3_stepsToHigh 23 = .ok (.iload_n 1, 1) := by decide +kernel
theorem dX3_stepsToHigh_24 : decode cX3_stepsToHigh 24 = .ok (.iconst 2, 1) := by decide +kernel
theorem dX3_stepsToHigh_25 : decode cX3_stepsToHigh 25 = .ok (.idiv, 1) := by decide +kernel
theorem dX3_stepsToHigh_26 : decode cX3_stepsToHigh 26 = .ok (.iload_n 2, 1) := by decide +kernel
theorem dX3_stepsToHigh_27 : decode cX3_stepsToHigh 27 = .ok (.isub, 1) := by decide +kernel
theorem dX3_stepsToHigh_28 : decode cX3_stepsToHigh 28 = .ok (.istore_n 3, 1) := by decide +kernel
theorem dX3_stepsToHigh_29 : decode cX3_stepsToHigh 29 = .ok (.iload_n 3, 1) := by decide +kernel
theorem dX3_stepsToHigh_30 : decode cX3_stepsToHigh 30 = .ok (.ifCond .le 7, 3) := by decide +kernel
theorem dX3_stepsToHigh_33 : decode cX3_stepsToHigh 33 = .ok (.iload_n 3, 1) := by decide +kernel
theorem dX3_stepsToHigh_34 : decode cX3_stepsToHigh 34 = .ok (.goto 6, 3) := by decide +kernel
theorem dX3_stepsToHigh_37 : decode cX3_stepsToHigh 37 = .ok (.iload_n 3, 1) := by decide +kernel
theorem dX3_stepsToHigh_38 : decode cX3_stepsToHigh 38 = .ok (.iload_n 1, 1) := by decide +kernel
theorem dX3_stepsToHigh_39 : decode cX3_stepsToHigh 39 = .ok (.iadd, 1) := by decide +kernel
theorem dX3_stepsToHigh_40 : decode cX3_stepsToHigh 40 = .ok (.ireturn, 1) := by decide +kernel
theorem dX3_level_0 : decode cX3_level 0 = .ok (.aload_n 0, 1) := by decide +kernel
theorem dX3_level_1 : decode cX3_level 1 = .ok (.getfield 70, 3) := by decide +kernel
theorem dX3_level_4 : decode cX3_level 4 = .ok (.aload_n 0, 1) := by decide +kernel
theorem dX3_level_5 : decode cX3_level 5 = .ok (.getfield 18, 3) := by decide +kernel
theorem dX3_level_8 : decode cX3_level 8 = .ok (.iconst 0, 1) := by decide +kernel
theorem dX3_level_9 : decode cX3_level 9 = .ok (.iaload, 1) := by decide +kernel
theorem dX3_level_10 : decode cX3_level 10 = .ok (.invokestatic 269, 3) := by decide +kernel
theorem dX3_level_13 : decode cX3_level 13 = .ok (.ireturn, 1) := by decide +kernel
theorem dX3_flowIn_0 : decode cX3_flowIn 0 = .ok (.iload_n 1, 1) := by decide +kernel
theorem dX3_flowIn_1 : decode cX3_flowIn 1 = .ok (.aload_n 0, 1) := by decide +kernel
theorem dX3_flowIn_2 : decode cX3_flowIn 2 = .ok (.invokevirtual 277, 3) := by decide +kernel
theorem dX3_flowIn_5 : decode cX3_flowIn 5 = .ok (.isub, 1) := by decide +kernel
theorem dX3_flowIn_6 : decode cX3_flowIn 6 = .ok (.istore_n 2, 1) := by decide +kernel
theorem dX3_flowIn_7 : decode cX3_flowIn 7 = .ok (.aload_n 0, 1) := by decide +kernel
theorem dX3_flowIn_8 : decode cX3_flowIn 8 = .ok (.getfield 73, 3) := by decide +kernel
theorem dX3_flowIn_11 : decode cX3_flowIn 11 = .ok (.iconst 1, 1) := by decide +kernel
theorem dX3_flowIn_12 : decode cX3_flowIn 12 = .ok (.if_icmp .eq 7, 3) := by decide +kernel
theorem dX3_flowIn_15 : decode cX3_flowIn 15 = .ok (.iload_n 2, 1) := by decide +kernel
theorem dX3_flowIn_16 : decode cX3_flowIn 16 = .ok (.ifCond .gt 4, 3) := by decide +kernel
theorem dX3_flowIn_19 : decode cX3_flowIn 19 = .ok (.return_, 1) := by decide +kernel
theorem dX3_flowIn_20 : decode cX3_flowIn 20 = .ok (.aload_n 0, 1) := by decide +kernel
theorem dX3_flowIn_21 : decode cX3_flowIn 21 = .ok (.getfield 18, 3) := by decide +kernel
theorem dX3_flowIn_24 : decode cX3_flowIn 24 = .ok (.iconst 5, 1) := by decide +kernel
theorem dX3_flowIn_25 : decode cX3_flowIn 25 = .ok (.iaload, 1) := by decide +kernel
theorem dX3_flowIn_26 : decode cX3_flowIn 26 = .ok (.aload_n 0, 1) := by decide +kernel
theorem dX3_flowIn_27 : decode cX3_flowIn 27 = .ok (.getfield 18, 3) := by decide +kernel
theorem dX3_flowIn_30 : decode cX3_flowIn 30 = .ok (.iconst 0, 1) := by decide +kernel
theorem dX3_flowIn_31 : decode cX3_flowIn 31 = .ok (.iaload, 1) := by decide +kernel
theorem dX3_flowIn_32 : decode cX3_flowIn 32 = .ok (.invokestatic 280, 3) := by decide +kernel
theorem dX3_flowIn_35 : decode cX3_flowIn 35 = .ok (.iload_n 2, 1) := by decide +kernel
theorem dX3_flowIn_36 : decode cX3_flowIn 36 = .ok (.imul, 1) := by decide +kernel
theorem dX3_flowIn_37 : decode cX3_flowIn 37 = .ok (.istore_n 3, 1) := by decide +kernel
theorem dX3_flowIn_38 : decode cX3_flowIn 38 = .ok (.aload_n 0, 1) := by decide +kernel
theorem dX3_flowIn_39 : decode cX3_flowIn 39 = .ok (.dup, 1) := by decide +kernel
theorem dX3_flowIn_40 : decode cX3_flowIn 40 = .ok (.getfield 70, 3) := by decide +kernel
theorem dX3_flowIn_43 : decode cX3_flowIn 43 = .ok (.iload_n 3, 1) := by decide +kernel
theorem dX3_flowIn_44 : decode cX3_flowIn 44 = .ok (.iadd, 1) := by decide +kernel
theorem dX3_flowIn_45 : decode cX3_flowIn 45 = .ok (.putfield 70, 3) := by decide +kernel
theorem dX3_flowIn_48 : decode cX3_flowIn 48 = .ok (.aload_n 0, 1) := by decide +kernel
theorem dX3_flowIn_49 : decode cX3_flowIn 49 = .ok (.dup, 1) := by decide +kernel
theorem dX3_flowIn_50 : decode cX3_flowIn 50 = .ok (.getfield 79, 3) := by decide +kernel
theorem dX3_flowIn_53 : decode cX3_flowIn 53 = .ok (.iload_n 3, 1) := by decide +kernel
theorem dX3_flowIn_54 : decode cX3_flowIn 54 = .ok (.iadd, 1) := by decide +kernel
theorem dX3_flowIn_55 : decode cX3_flowIn 55 = .ok (.putfield 79, 3) := by decide +kernel
theorem dX3_flowIn_58 : decode cX3_flowIn 58 = .ok (.return_, 1) := by decide +kernel
theorem dX3_leakOut_0 : decode cX3_leakOut 0 = .ok (.aload_n 0, 1) := by decide +kernel
theorem dX3_leakOut_1 : decode cX3_leakOut 1 = .ok (.invokevirtual 277, 3) := by decide +kernel
theorem dX3_leakOut_4 : decode cX3_leakOut 4 = .ok (.iload_n 1, 1) := by decide +kernel
theorem dX3_leakOut_5 : decode cX3_leakOut 5 = .ok (.isub, 1) := by decide +kernel
theorem dX3_leakOut_6 : decode cX3_leakOut 6 = .ok (.istore_n 2, 1) := by decide +kernel
theorem dX3_leakOut_7 : decode cX3_leakOut 7 = .ok (.iload_n 2, 1) := by decide +kernel
theorem dX3_leakOut_8 : decode cX3_leakOut 8 = .ok (.ifCond .gt 4, 3) := by decide +kernel
theorem dX3_leakOut_11 : decode cX3_leakOut 11 = .ok (.return_, 1) := by decide +kernel
theorem dX3_leakOut_12 : decode cX3_leakOut 12 = .ok (.iconst 0, 1) := by decide +kernel
theorem dX3_leakOut_13 : decode cX3_leakOut 13 = .ok (.istore_n 3, 1) := by decide +kernel
theorem dX3_leakOut_14 : decode cX3_leakOut 14 = .ok (.iload_n 3, 1) := by decide +kernel
theorem dX3_leakOut_15 : decode cX3_leakOut 15 = .ok (.iconst 4, 1) := by decide +kernel
theorem dX3_leakOut_16 : decode cX3_leakOut 16 = .ok (.if_icmp .ge 48, 3) := by decide +kernel
theorem dX3_leakOut_19 : decode cX3_leakOut 19 = .ok (.aload_n 0, 1) := by decide +kernel
theorem dX3_leakOut_20 : decode cX3_leakOut 20 = .ok (.getfield 26, 3) := by decide +kernel
theorem dX3_leakOut_23 : decode cX3_leakOut 23 = .ok (.iload_n 3, 1) := by decide +kernel
theorem dX3_leakOut_24 : decode cX3_leakOut 24 = .ok (.iaload, 1) := by decide +kernel
theorem dX3_leakOut_25 : decode cX3_leakOut 25 = .ok (.iload_n 2, 1) := by decide +kernel
theorem dX3_leakOut_26 : decode cX3_leakOut 26 = .ok (.imul, 1) := by decide +kernel
theorem dX3_leakOut_27 : decode cX3_leakOut 27 = .ok (.aload_n 0, 1) := by decide +kernel
theorem dX3_leakOut_28 : decode cX3_leakOut 28 = .ok (.getfield 70, 3) := by decide +kernel
theorem dX3_leakOut_31 : decode cX3_leakOut 31 = .ok (.invokestatic 280, 3) := by decide +kernel
theorem dX3_leakOut_34 : decode cX3_leakOut 34 = .ok (.istore 4, 2) := by decide +kernel
theorem dX3_leakOut_36 : decode cX3_leakOut 36 = .ok (.aload_n 0, 1) := by decide +kernel
theorem dX3_leakOut_37 : decode cX3_leakOut 37 = .ok (.dup, 1) := by decide +kernel
theorem dX3_leakOut_38 : decode cX3_leakOut 38 = .ok (.getfield 70, 3) := by decide +kernel
theorem dX3_leakOut_41 : decode cX3_leakOut 41 = .ok (.iload 4, 2) := by decide +kernel
theorem dX3_leakOut_43 : decode cX3_leakOut 43 = .ok (.isub, 1) := by decide +kernel
theorem dX3_leakOut_44 : decode cX3_leakOut 44 = .ok (.putfield 70, 3) := by decide +kernel
theorem dX3_leakOut_47 : decode cX3_leakOut 47 = .ok (.aload_n 0, 1) := by decide +kernel
theorem dX3_leakOut_48 : decode cX3_leakOut 48 = .ok (.dup, 1) := by decide +kernel
theorem dX3_leakOut_49 : decode cX3_leakOut 49 = .ok (.getfield 82, 3) := by decide +kernel
theorem dX3_leakOut_52 : decode cX3_leakOut 52 = .ok (.iload 4, 2) := by decide +kernel
theorem dX3_leakOut_54 : decode cX3_leakOut 54 = .ok (.iadd, 1) := by decide +kernel
theorem dX3_leakOut_55 : decode cX3_leakOut 55 = .ok (.putfield 82, 3) := by decide +kernel
theorem dX3_leakOut_58 : decode cX3_leakOut 58 = .ok (.iinc 3 1, 3) := by decide +kernel
theorem dX3_leakOut_61 : decode cX3_leakOut 61 = .ok (.goto (-47), 3) := by decide +kernel
theorem dX3_leakOut_64 : decode cX3_leakOut 64 = .ok (.return_, 1) := by decide +kernel
theorem dX3_grind_0 : decode cX3_grind 0 = .ok (.aload_n 0, 1) := by decide +kernel
theorem dX3_grind_1 : decode cX3_grind 1 = .ok (.invokevirtual 277, 3) := by decide +kernel
theorem dX3_grind_4 : decode cX3_grind 4 = .ok (.iload_n 1, 1) := by decide +kernel
theorem dX3_grind_5 : decode cX3_grind 5 = .ok (.isub, 1) := by decide +kernel
theorem dX3_grind_6 : decode cX3_grind 6 = .ok (.istore_n 2, 1) := by decide +kernel
theorem dX3_grind_7 : decode cX3_grind 7 = .ok (.aload_n 0, 1) := by decide +kernel
theorem dX3_grind_8 : decode cX3_grind 8 = .ok (.getfield 76, 3) := by decide +kernel
theorem dX3_grind_11 : decode cX3_grind 11 = .ok (.aload_n 0, 1) := by decide +kernel
theorem dX3_grind_12 : decode cX3_grind 12 = .ok (.getfield 18, 3) := by decide +kernel
theorem dX3_grind_15 : decode cX3_grind 15 = .ok (.bipush 7, 2) := by decide +kernel
theorem dX3_grind_17 : decode cX3_grind 17 = .ok (.iaload, 1) := by decide +kernel
theorem dX3_grind_18 : decode cX3_grind 18 = .ok (.imul, 1) := by decide +kernel
theorem dX3_grind_19 : decode cX3_grind 19 = .ok (.istore_n 3, 1) := by decide +kernel
theorem dX3_grind_20 : decode cX3_grind 20 = .ok (.aload_n 0, 1) := by decide +kernel
theorem dX3_grind_21 : decode cX3_grind 21 = .ok (.getfield 76, 3) := by decide +kernel
theorem dX3_grind_24 : decode cX3_grind 24 = .ok (.ifCond .eq 26, 3) := by decide +kernel
theorem dX3_grind_27 : decode cX3_grind 27 = .ok (.iload_n 2, 1) := by decide +kernel
theorem dX3_grind_28 : decode cX3_grind 28 = .ok (.ifCond .le 22, 3) := by decide +kernel
theorem dX3_grind_31 : decode cX3_grind 31 = .ok (.iload_n 2, 1) := by decide +kernel
theorem dX3_grind_32 : decode cX3_grind 32 = .ok (.aload_n 0, 1) := by decide +kernel
theorem dX3_grind_33 : decode cX3_grind 33 = .ok (.getfield 18, 3) := by decide +kernel
theorem dX3_grind_36 : decode cX3_grind 36 = .ok (.bipush 6, 2) := by decide +kernel
theorem dX3_grind_38 : decode cX3_grind 38 = .ok (.iaload, 1) := by decide +kernel
theorem dX3_grind_39 : decode cX3_grind 39 = .ok (.if_icmp .lt 11, 3) := by decide +kernel
theorem dX3_grind_42 : decode cX3_grind 42 = .ok (.aload_n 0, 1) := by decide +kernel
theorem dX3_grind_43 : decode cX3_grind 43 = .ok (.getfield 70, 3) := by decide +kernel
theorem dX3_grind_46 : decode cX3_grind 46 = .ok (.iload_n 3, 1) := by decide +kernel
theorem dX3_grind_47 : decode cX3_grind 47 = .ok (.if_icmp .ge 4, 3) := by decide +kernel
theorem dX3_grind_50 : decode cX3_grind 50 = .ok (.return_, 1) := by decide +kernel
theorem dX3_grind_51 : decode cX3_grind 51 = .ok (.aload_n 0, 1) := by decide +kernel
theorem dX3_grind_52 : decode cX3_grind 52 = .ok (.aload_n 0, 1) := by decide +kernel
theorem dX3_grind_53 : decode cX3_grind 53 = .ok (.getfield 47, 3) := by decide +kernel
theorem dX3_grind_56 : decode cX3_grind 56 = .ok (.invokevirtual 149, 3) := by decide +kernel
theorem dX3_grind_59 : decode cX3_grind 59 = .ok (.ifCond .ne 11, 3) := by decide +kernel
theorem dX3_grind_62 : decode cX3_grind 62 = .ok (.aload_n 0, 1) := by decide +kernel
theorem dX3_grind_63 : decode cX3_grind 63 = .ok (.aload_n 0, 1) := by decide +kernel
theorem dX3_grind_64 : decode cX3_grind 64 = .ok (.invokevirtual 283, 3) := by decide +kernel
theorem dX3_grind_67 : decode cX3_grind 67 = .ok (.invokevirtual 286, 3) := by decide +kernel
theorem dX3_grind_70 : decode cX3_grind 70 = .ok (.aload_n 0, 1) := by decide +kernel
theorem dX3_grind_71 : decode cX3_grind 71 = .ok (.aload_n 0, 1) := by decide +kernel
theorem dX3_grind_72 : decode cX3_grind 72 = .ok (.getfield 47, 3) := by decide +kernel
theorem dX3_grind_75 : decode cX3_grind 75 = .ok (.invokevirtual 149, 3) := by decide +kernel
theorem dX3_grind_78 : decode cX3_grind 78 = .ok (.ifCond .eq 42, 3) := by decide +kernel
theorem dX3_grind_81 : decode cX3_grind 81 = .ok (.aload_n 0, 1) := by decide +kernel
theorem dX3_grind_82 : decode cX3_grind 82 = .ok (.dup, 1) := by decide +kernel
theorem dX3_grind_83 : decode cX3_grind 83 = .ok (.getfield 70, 3) := by decide +kernel
theorem dX3_grind_86 : decode cX3_grind 86 = .ok (.iload_n 3, 1) := by decide +kernel
theorem dX3_grind_87 : decode cX3_grind 87 = .ok (.isub, 1) := by decide +kernel
theorem dX3_grind_88 : decode cX3_grind 88 = .ok (.putfield 70, 3) := by decide +kernel
theorem dX3_grind_91 : decode cX3_grind 91 = .ok (.aload_n 0, 1) := by decide +kernel
theorem dX3_grind_92 : decode cX3_grind 92 = .ok (.dup, 1) := by decide +kernel
theorem dX3_grind_93 : decode cX3_grind 93 = .ok (.getfield 85, 3) := by decide +kernel
theorem dX3_grind_96 : decode cX3_grind 96 = .ok (.iload_n 3, 1) := by decide +kernel
theorem dX3_grind_97 : decode cX3_grind 97 = .ok (.iadd, 1) := by decide +kernel
theorem dX3_grind_98 : decode cX3_grind 98 = .ok (.putfield 85, 3) := by decide +kernel
theorem dX3_grind_101 : decode cX3_grind 101 = .ok (.aload_n 0, 1) := by decide +kernel
theorem dX3_grind_102 : decode cX3_grind 102 = .ok (.aload_n 0, 1) := by decide +kernel
theorem dX3_grind_103 : decode cX3_grind 103 = .ok (.getfield 43, 3) := by decide +kernel
theorem dX3_grind_106 : decode cX3_grind 106 = .ok (.aload_n 0, 1) := by decide +kernel
theorem dX3_grind_107 : decode cX3_grind 107 = .ok (.getfield 47, 3) := by decide +kernel
theorem dX3_grind_110 : decode cX3_grind 110 = .ok (.aaload, 1) := by decide +kernel
theorem dX3_grind_111 : decode cX3_grind 111 = .ok (.aload_n 0, 1) := by decide +kernel
theorem dX3_grind_112 : decode cX3_grind 112 = .ok (.getfield 76, 3) := by decide +kernel
theorem dX3_grind_115 : decode cX3_grind 115 = .ok (.iload_n 2, 1) := by decide +kernel
theorem dX3_grind_116 : decode cX3_grind 116 = .ok (.imul, 1) := by decide +kernel
theorem dX3_grind_117 : decode cX3_grind 117 = .ok (.invokevirtual 289, 3) := by decide +kernel
theorem dX3_grind_120 : decode cX3_grind 120 = .ok (.return_, 1) := by decide +kernel
theorem dX3_putOnStones_0 : decode cX3_putOnStones 0 = .ok (.aload_n 0, 1) := by decide +kernel
theorem dX3_putOnStones_1 : decode cX3_putOnStones 1 = .ok (.iload_n 1, 1) := by decide +kernel
theorem dX3_putOnStones_2 : decode cX3_putOnStones 2 = .ok (.invokevirtual 149, 3) := by decide +kernel
theorem dX3_putOnStones_5 : decode cX3_putOnStones 5 = .ok (.ifCond .ne 4, 3) := by decide +kernel
theorem dX3_putOnStones_8 : decode cX3_putOnStones 8 = .ok (.return_, 1) := by decide +kernel
theorem dX3_putOnStones_9 : decode cX3_putOnStones 9 = .ok (.aload_n 0, 1) := by decide +kernel
theorem dX3_putOnStones_10 : decode cX3_putOnStones 10 = .ok (.getfield 43, 3) := by decide +kernel
theorem dX3_putOnStones_13 : decode cX3_putOnStones 13 = .ok (.iload_n 1, 1) := by decide +kernel
theorem dX3_putOnStones_14 : decode cX3_putOnStones 14 = .ok (.aaload, 1) := by decide +kernel
theorem dX3_putOnStones_15 : decode cX3_putOnStones 15 = .ok (.astore_n 2, 1) := by decide +kernel
theorem dX3_putOnStones_16 : decode cX3_putOnStones 16 = .ok (.aload_n 2, 1) := by decide +kernel
theorem dX3_putOnStones_17 : decode cX3_putOnStones 17 = .ok (.iconst 1, 1) := by decide +kernel
theorem dX3_putOnStones_18 : decode cX3_putOnStones 18 = .ok (.putfield 152, 3) := by decide +kernel
theorem dX3_putOnStones_21 : decode cX3_putOnStones 21 = .ok (.aload_n 2, 1) := by decide +kernel
theorem dX3_putOnStones_22 : decode cX3_putOnStones 22 = .ok (.aload_n 0, 1) := by decide +kernel
theorem dX3_putOnStones_23 : decode cX3_putOnStones 23 = .ok (.getfield 18, 3) := by decide +kernel
theorem dX3_putOnStones_26 : decode cX3_putOnStones 26 = .ok (.bipush 8, 2) := by decide +kernel
theorem dX3_putOnStones_28 : decode cX3_putOnStones 28 = .ok (.iaload, 1) := by decide +kernel
theorem dX3_putOnStones_29 : decode cX3_putOnStones 29 = .ok (.putfield 293, 3) := by decide +kernel
theorem dX3_putOnStones_32 : decode cX3_putOnStones 32 = .ok (.aload_n 0, 1) := by decide +kernel
theorem dX3_putOnStones_33 : decode cX3_putOnStones 33 = .ok (.iload_n 1, 1) := by decide +kernel
theorem dX3_putOnStones_34 : decode cX3_putOnStones 34 = .ok (.putfield 47, 3) := by decide +kernel
theorem dX3_putOnStones_37 : decode cX3_putOnStones 37 = .ok (.aload_n 0, 1) := by decide +kernel
theorem dX3_putOnStones_38 : decode cX3_putOnStones 38 = .ok (.aload_n 2, 1) := by decide +kernel
theorem dX3_putOnStones_39 : decode cX3_putOnStones 39 = .ok (.getfield 206, 3) := by decide +kernel
theorem dX3_putOnStones_42 : decode cX3_putOnStones 42 = .ok (.putfield 51, 3) := by decide +kernel
theorem dX3_putOnStones_45 : decode cX3_putOnStones 45 = .ok (.aload_n 0, 1) := by decide +kernel
theorem dX3_putOnStones_46 : decode cX3_putOnStones 46 = .ok (.aload_n 2, 1) := by decide +kernel
theorem dX3_putOnStones_47 : decode cX3_putOnStones 47 = .ok (.getfield 203, 3) := by decide +kernel
theorem dX3_putOnStones_50 : decode cX3_putOnStones 50 = .ok (.invokevirtual 138, 3) := by decide +kernel
theorem dX3_putOnStones_53 : decode cX3_putOnStones 53 = .ok (.ifCond .eq 21, 3) := by decide +kernel
theorem dX3_putOnStones_56 : decode cX3_putOnStones 56 = .ok (.aload_n 0, 1) := by decide +kernel
theorem dX3_putOnStones_57 : decode cX3_putOnStones 57 = .ok (.getfield 37, 3) := by decide +kernel
theorem dX3_putOnStones_60 : decode cX3_putOnStones 60 = .ok (.aload_n 2, 1) := by decide +kernel
theorem dX3_putOnStones_61 : decode cX3_putOnStones 61 = .ok (.getfield 203, 3) := by decide +kernel
theorem dX3_putOnStones_64 : decode cX3_putOnStones 64 = .ok (.aaload, 1) := by decide +kernel
theorem dX3_putOnStones_65 : decode cX3_putOnStones 65 = .ok (.dup, 1) := by decide +kernel
theorem dX3_putOnStones_66 : decode cX3_putOnStones 66 = .ok (.getfield 135, 3) := by decide +kernel
theorem dX3_putOnStones_69 : decode cX3_putOnStones 69 = .ok (.iconst 1, 1) := by decide +kernel
theorem dX3_putOnStones_70 : decode cX3_putOnStones 70 = .ok (.iadd, 1) := by decide +kernel
theorem dX3_putOnStones_71 : decode cX3_putOnStones 71 = .ok (.putfield 135, 3) := by decide +kernel
theorem dX3_putOnStones_74 : decode cX3_putOnStones 74 = .ok (.return_, 1) := by decide +kernel
theorem dX3_grindSack_0 : decode cX3_grindSack 0 = .ok (.iload_n 2, 1) := by decide +kernel
theorem dX3_grindSack_1 : decode cX3_grindSack 1 = .ok (.aload_n 1, 1) := by decide +kernel
theorem dX3_grindSack_2 : decode cX3_grindSack 2 = .ok (.getfield 209, 3) := by decide +kernel
theorem dX3_grindSack_5 : decode cX3_grindSack 5 = .ok (.invokestatic 269, 3) := by decide +kernel
theorem dX3_grindSack_8 : decode cX3_grindSack 8 = .ok (.iconst 1, 1) := by decide +kernel
theorem dX3_grindSack_9 : decode cX3_grindSack 9 = .ok (.invokestatic 296, 3) := by decide +kernel
theorem dX3_grindSack_12 : decode cX3_grindSack 12 = .ok (.aload_n 1, 1) := by decide +kernel
theorem dX3_grindSack_13 : decode cX3_grindSack 13 = .ok (.invokevirtual 156, 3) := by decide +kernel
theorem dX3_grindSack_16 : decode cX3_grindSack 16 = .ok (.invokestatic 280, 3) := by decide +kernel
theorem dX3_grindSack_19 : decode cX3_grindSack 19 = .ok (.istore_n 3, 1) := by decide +kernel
theorem dX3_grindSack_20 : decode cX3_grindSack 20 = .ok (.aload_n 1, 1) := by decide +kernel
theorem dX3_grindSack_21 : decode cX3_grindSack 21 = .ok (.iload_n 3, 1) := by decide +kernel
theorem dX3_grindSack_22 : decode cX3_grindSack 22 = .ok (.invokevirtual 299, 3) := by decide +kernel
theorem dX3_grindSack_25 : decode cX3_grindSack 25 = .ok (.aload_n 0, 1) := by decide +kernel
theorem dX3_grindSack_26 : decode cX3_grindSack 26 = .ok (.dup, 1) := by decide +kernel
theorem dX3_grindSack_27 : decode cX3_grindSack 27 = .ok (.getfield 88, 3) := by decide +kernel
theorem dX3_grindSack_30 : decode cX3_grindSack 30 = .ok (.iload_n 3, 1) := by decide +kernel
theorem dX3_grindSack_31 : decode cX3_grindSack 31 = .ok (.iadd, 1) := by decide +kernel
theorem dX3_grindSack_32 : decode cX3_grindSack 32 = .ok (.putfield 88, 3) := by decide +kernel
theorem dX3_grindSack_35 : decode cX3_grindSack 35 = .ok (.aload_n 1, 1) := by decide +kernel
theorem dX3_grindSack_36 : decode cX3_grindSack 36 = .ok (.getfield 152, 3) := by decide +kernel
theorem dX3_grindSack_39 : decode cX3_grindSack 39 = .ok (.iconst 2, 1) := by decide +kernel
theorem dX3_grindSack_40 : decode cX3_grindSack 40 = .ok (.if_icmp .ne 8, 3) := by decide +kernel
theorem dX3_grindSack_43 : decode cX3_grindSack 43 = .ok (.aload_n 0, 1) := by decide +kernel
theorem dX3_grindSack_44 : decode cX3_grindSack 44 = .ok (.iconst (-1), 1) := by decide +kernel
theorem dX3_grindSack_45 : decode cX3_grindSack 45 = .ok (.putfield 47, 3) := by decide +kernel
theorem dX3_grindSack_48 : decode cX3_grindSack 48 = .ok (.return_, 1) := by decide +kernel
theorem dX3_tellPond_0 : decode cX3_tellPond 0 = .ok (.iload_n 1, 1) := by decide +kernel
theorem dX3_tellPond_1 : decode cX3_tellPond 1 = .ok (.tableswitch 140 0 10 #[59, 64, 69, 78, 92, 97, 102, 120, 125, 130, 135], 59) := by decide +kernel
theorem dX3_tellPond_60 : decode cX3_tellPond 60 = .ok (.aload_n 0, 1) := by decide +kernel
theorem dX3_tellPond_61 : decode cX3_tellPond 61 = .ok (.getfield 70, 3) := by decide +kernel
theorem dX3_tellPond_64 : decode cX3_tellPond 64 = .ok (.ireturn, 1) := by decide +kernel
theorem dX3_tellPond_65 : decode cX3_tellPond 65 = .ok (.aload_n 0, 1) := by decide +kernel
theorem dX3_tellPond_66 : decode cX3_tellPond 66 = .ok (.invokevirtual 277, 3) := by decide +kernel
theorem dX3_tellPond_69 : decode cX3_tellPond 69 = .ok (.ireturn, 1) := by decide +kernel
theorem dX3_tellPond_70 : decode cX3_tellPond 70 = .ok (.aload_n 0, 1) := by decide +kernel
theorem dX3_tellPond_71 : decode cX3_tellPond 71 = .ok (.aload_n 0, 1) := by decide +kernel
theorem dX3_tellPond_72 : decode cX3_tellPond 72 = .ok (.getfield 67, 3) := by decide +kernel
theorem dX3_tellPond_75 : decode cX3_tellPond 75 = .ok (.invokevirtual 256, 3) := by decide +kernel
theorem dX3_tellPond_78 : decode cX3_tellPond 78 = .ok (.ireturn, 1) := by decide +kernel
theorem dX3_tellPond_79 : decode cX3_tellPond 79 = .ok (.aload_n 0, 1) := by decide +kernel
theorem dX3_tellPond_80 : decode cX3_tellPond 80 = .ok (.invokevirtual 277, 3) := by decide +kernel
theorem dX3_tellPond_83 : decode cX3_tellPond 83 = .ok (.aload_n 0, 1) := by decide +kernel
theorem dX3_tellPond_84 : decode cX3_tellPond 84 = .ok (.aload_n 0, 1) := by decide +kernel
theorem dX3_tellPond_85 : decode cX3_tellPond 85 = .ok (.getfield 67, 3) := by decide +kernel
theorem dX3_tellPond_88 : decode cX3_tellPond 88 = .ok (.invokevirtual 256, 3) := by decide +kernel
theorem dX3_tellPond_91 : decode cX3_tellPond 91 = .ok (.isub, 1) := by decide +kernel
theorem dX3_tellPond_92 : decode cX3_tellPond 92 = .ok (.ireturn, 1) := by decide +kernel
theorem dX3_tellPond_93 : decode cX3_tellPond 93 = .ok (.aload_n 0, 1) := by decide +kernel
theorem dX3_tellPond_94 : decode cX3_tellPond 94 = .ok (.getfield 76, 3) := by decide +kernel
theorem dX3_tellPond_97 : decode cX3_tellPond 97 = .ok (.ireturn, 1) := by decide +kernel
theorem dX3_tellPond_98 : decode cX3_tellPond 98 = .ok (.aload_n 0, 1) := by decide +kernel
theorem dX3_tellPond_99 : decode cX3_tellPond 99 = .ok (.getfield 73, 3) := by decide +kernel
theorem dX3_tellPond_102 : decode cX3_tellPond 102 = .ok (.ireturn, 1) := by decide +kernel
theorem dX3_tellPond_103 : decode cX3_tellPond 103 = .ok (.aload_n 0, 1) := by decide +kernel
theorem dX3_tellPond_104 : decode cX3_tellPond 104 = .ok (.getfield 47, 3) := by decide +kernel
theorem dX3_tellPond_107 : decode cX3_tellPond 107 = .ok (.iconst (-1), 1) := by decide +kernel
theorem dX3_tellPond_108 : decode cX3_tellPond 108 = .ok (.if_icmp .ne 8, 3) := by decide +kernel
theorem dX3_tellPond_111 : decode cX3_tellPond 111 = .ok (.ldc 189, 2) := by decide +kernel
theorem dX3_tellPond_113 : decode cX3_tellPond 113 = .ok (.goto 7, 3) := by decide +kernel
theorem dX3_tellPond_116 : decode cX3_tellPond 116 = .ok (.aload_n 0, 1) := by decide +kernel
theorem dX3_tellPond_117 : decode cX3_tellPond 117 = .ok (.getfield 47, 3) := by decide +kernel
theorem dX3_tellPond_120 : decode cX3_tellPond 120 = .ok (.ireturn, 1) := by decide +kernel
theorem dX3_tellPond_121 : decode cX3_tellPond 121 = .ok (.aload_n 0, 1) := by decide +kernel
theorem dX3_tellPond_122 : decode cX3_tellPond 122 = .ok (.getfield 79, 3) := by decide +kernel
theorem dX3_tellPond_125 : decode cX3_tellPond 125 = .ok (.ireturn, 1) := by decide +kernel
theorem dX3_tellPond_126 : decode cX3_tellPond 126 = .ok (.aload_n 0, 1) := by decide +kernel
theorem dX3_tellPond_127 : decode cX3_tellPond 127 = .ok (.getfield 82, 3) := by decide +kernel
theorem dX3_tellPond_130 : decode cX3_tellPond 130 = .ok (.ireturn, 1) := by decide +kernel
theorem dX3_tellPond_131 : decode cX3_tellPond 131 = .ok (.aload_n 0, 1) := by decide +kernel
theorem dX3_tellPond_132 : decode cX3_tellPond 132 = .ok (.getfield 85, 3) := by decide +kernel
theorem dX3_tellPond_135 : decode cX3_tellPond 135 = .ok (.ireturn, 1) := by decide +kernel
theorem dX3_tellPond_136 : decode cX3_tellPond 136 = .ok (.aload_n 0, 1) := by decide +kernel
theorem dX3_tellPond_137 : decode cX3_tellPond 137 = .ok (.getfield 88, 3) := by decide +kernel
theorem dX3_tellPond_140 : decode cX3_tellPond 140 = .ok (.ireturn, 1) := by decide +kernel
theorem dX3_tellPond_141 : decode cX3_tellPond 141 = .ok (.iload_n 1, 1) := by decide +kernel
theorem dX3_tellPond_142 : decode cX3_tellPond 142 = .ok (.bipush 11, 2) := by decide +kernel
theorem dX3_tellPond_144 : decode cX3_tellPond 144 = .ok (.bipush 14, 2) := by decide +kernel
theorem dX3_tellPond_146 : decode cX3_tellPond 146 = .ok (.invokestatic 110, 3) := by decide +kernel
theorem dX3_tellPond_149 : decode cX3_tellPond 149 = .ok (.ifCond .eq 15, 3) := by decide +kernel
theorem dX3_tellPond_152 : decode cX3_tellPond 152 = .ok (.aload_n 0, 1) := by decide +kernel
theorem dX3_tellPond_153 : decode cX3_tellPond 153 = .ok (.getfield 26, 3) := by decide +kernel
theorem dX3_tellPond_156 : decode cX3_tellPond 156 = .ok (.iload_n 1, 1) := by decide +kernel
theorem dX3_tellPond_157 : decode cX3_tellPond 157 = .ok (.bipush 11, 2) := by decide +kernel
theorem dX3_tellPond_159 : decode cX3_tellPond 159 = .ok (.isub, 1) := by decide +kernel
theorem dX3_tellPond_160 : decode cX3_tellPond 160 = .ok (.iaload, 1) := by decide +kernel
theorem dX3_tellPond_161 : decode cX3_tellPond 161 = .ok (.goto 5, 3) := by decide +kernel
theorem dX3_tellPond_164 : decode cX3_tellPond 164 = .ok (.ldc 120, 2) := by decide +kernel
theorem dX3_tellPond_166 : decode cX3_tellPond 166 = .ok (.ireturn, 1) := by decide +kernel
theorem dX3_countOf_0 : decode cX3_countOf 0 = .ok (.iload_n 1, 1) := by decide +kernel
theorem dX3_countOf_1 : decode cX3_countOf 1 = .ok (.tableswitch 100 0 8 #[51, 56, 61, 66, 72, 78, 84, 90, 95], 51) := by decide +kernel
theorem dX3_countOf_52 : decode cX3_countOf 52 = .ok (.aload_n 0, 1) := by decide +kernel
theorem dX3_countOf_53 : decode cX3_countOf 53 = .ok (.getfield 91, 3) := by decide +kernel
theorem dX3_countOf_56 : decode cX3_countOf 56 = .ok (.ireturn, 1) := by decide +kernel
theorem dX3_countOf_57 : decode cX3_countOf 57 = .ok (.aload_n 0, 1) := by decide +kernel
theorem dX3_countOf_58 : decode cX3_countOf 58 = .ok (.getfield 94, 3) := by decide +kernel
theorem dX3_countOf_61 : decode cX3_countOf 61 = .ok (.ireturn, 1) := by decide +kernel
theorem dX3_countOf_62 : decode cX3_countOf 62 = .ok (.aload_n 0, 1) := by decide +kernel
theorem dX3_countOf_63 : decode cX3_countOf 63 = .ok (.getfield 97, 3) := by decide +kernel
theorem dX3_countOf_66 : decode cX3_countOf 66 = .ok (.ireturn, 1) := by decide +kernel
theorem dX3_countOf_67 : decode cX3_countOf 67 = .ok (.aload_n 0, 1) := by decide +kernel
theorem dX3_countOf_68 : decode cX3_countOf 68 = .ok (.iconst 0, 1) := by decide +kernel
theorem dX3_countOf_69 : decode cX3_countOf 69 = .ok (.invokevirtual 302, 3) := by decide +kernel
theorem dX3_countOf_72 : decode cX3_countOf 72 = .ok (.ireturn, 1) := by decide +kernel
theorem dX3_countOf_73 : decode cX3_countOf 73 = .ok (.aload_n 0, 1) := by decide +kernel
theorem dX3_countOf_74 : decode cX3_countOf 74 = .ok (.iconst 2, 1) := by decide +kernel
theorem dX3_countOf_75 : decode cX3_countOf 75 = .ok (.invokevirtual 302, 3) := by decide +kernel
theorem dX3_countOf_78 : decode cX3_countOf 78 = .ok (.ireturn, 1) := by decide +kernel
theorem dX3_countOf_79 : decode cX3_countOf 79 = .ok (.aload_n 0, 1) := by decide +kernel
theorem dX3_countOf_80 : decode cX3_countOf 80 = .ok (.iconst 3, 1) := by decide +kernel
theorem dX3_countOf_81 : decode cX3_countOf 81 = .ok (.invokevirtual 302, 3) := by decide +kernel
theorem dX3_countOf_84 : decode cX3_countOf 84 = .ok (.ireturn, 1) := by decide +kernel
theorem dX3_countOf_85 : decode cX3_countOf 85 = .ok (.aload_n 0, 1) := by decide +kernel
theorem dX3_countOf_86 : decode cX3_countOf 86 = .ok (.iconst (-1), 1) := by decide +kernel
theorem dX3_countOf_87 : decode cX3_countOf 87 = .ok (.invokevirtual 178, 3) := by decide +kernel
theorem dX3_countOf_90 : decode cX3_countOf 90 = .ok (.ireturn, 1) := by decide +kernel
theorem dX3_countOf_91 : decode cX3_countOf 91 = .ok (.aload_n 0, 1) := by decide +kernel
theorem dX3_countOf_92 : decode cX3_countOf 92 = .ok (.getfield 67, 3) := by decide +kernel
theorem dX3_countOf_95 : decode cX3_countOf 95 = .ok (.ireturn, 1) := by decide +kernel
theorem dX3_countOf_96 : decode cX3_countOf 96 = .ok (.aload_n 0, 1) := by decide +kernel
theorem dX3_countOf_97 : decode cX3_countOf 97 = .ok (.invokevirtual 223, 3) := by decide +kernel
theorem dX3_countOf_100 : decode cX3_countOf 100 = .ok (.ireturn, 1) := by decide +kernel
theorem dX3_countOf_101 : decode cX3_countOf 101 = .ok (.ldc 120, 2) := by decide +kernel
theorem dX3_countOf_103 : decode cX3_countOf 103 = .ok (.ireturn, 1) := by decide +kernel
theorem dX4_init_0 : decode cX4_init 0 = .ok (.aload_n 0, 1) := by decide +kernel
theorem dX4_init_1 : decode cX4_init 1 = .ok (.invokespecial 3, 3) := by decide +kernel
theorem dX4_init_4 : decode cX4_init 4 = .ok (.aload_n 0, 1) := by decide +kernel
theorem dX4_init_5 : decode cX4_init 5 = .ok (.bipush 60, 2) := by decide +kernel
theorem dX4_init_7 : decode cX4_init 7 = .ok (.newarray .char, 2) := by decide +kernel
theorem dX4_init_9 : decode cX4_init 9 = .ok (.putfield 9, 3) := by decide +kernel
theorem dX4_init_12 : decode cX4_init 12 = .ok (.aload_n 0, 1) := by decide +kernel
theorem dX4_init_13 : decode cX4_init 13 = .ok (.iconst 3, 1) := by decide +kernel
theorem dX4_init_14 : decode cX4_init 14 = .ok (.newarray .int, 2) := by decide +kernel
theorem dX4_init_16 : decode cX4_init 16 = .ok (.putfield 15, 3) := by decide +kernel
theorem dX4_init_19 : decode cX4_init 19 = .ok (.return_, 1) := by decide +kernel
theorem dX4_append_0 : decode cX4_append 0 = .ok (.aload_n 0, 1) := by decide +kernel
theorem dX4_append_1 : decode cX4_append 1 = .ok (.getfield 19, 3) := by decide +kernel
theorem dX4_append_4 : decode cX4_append 4 = .ok (.bipush 60, 2) := by decide +kernel
theorem dX4_append_6 : decode cX4_append 6 = .ok (.if_icmp .lt 6, 3) := by decide +kernel
theorem dX4_append_9 : decode cX4_append 9 = .ok (.ldc 23, 2) := by decide +kernel
theorem dX4_append_11 : decode cX4_append 11 = .ok (.ireturn, 1) := by decide +kernel
theorem dX4_append_12 : decode cX4_append 12 = .ok (.aload_n 0, 1) := by decide +kernel
theorem dX4_append_13 : decode cX4_append 13 = .ok (.getfield 9, 3) := by decide +kernel
theorem dX4_append_16 : decode cX4_append 16 = .ok (.aload_n 0, 1) := by decide +kernel
theorem dX4_append_17 : decode cX4_append 17 = .ok (.getfield 19, 3) := by decide +kernel
theorem dX4_append_20 : decode cX4_append 20 = .ok (.iload_n 1, 1) := by decide +kernel
theorem dX4_append_21 : decode cX4_append 21 = .ok (.castore, 1) := by decide +kernel
theorem dX4_append_22 : decode cX4_append 22 = .ok (.aload_n 0, 1) := by decide +kernel
theorem dX4_append_23 : decode cX4_append 23 = .ok (.dup, 1) := by decide +kernel
theorem dX4_append_24 : decode cX4_append 24 = .ok (.getfield 19, 3) := by decide +kernel
theorem dX4_append_27 : decode cX4_append 27 = .ok (.iconst 1, 1) := by decide +kernel
theorem dX4_append_28 : decode cX4_append 28 = .ok (.iadd, 1) := by decide +kernel
theorem dX4_append_29 : decode cX4_append 29 = .ok (.putfield 19, 3) := by decide +kernel
theorem dX4_append_32 : decode cX4_append 32 = .ok (.aload_n 0, 1) := by decide +kernel
theorem dX4_append_33 : decode cX4_append 33 = .ok (.getfield 19, 3) := by decide +kernel
theorem dX4_append_36 : decode cX4_append 36 = .ok (.ireturn, 1) := by decide +kernel
theorem dX4_empty_0 : decode cX4_empty 0 = .ok (.aload_n 0, 1) := by decide +kernel
theorem dX4_empty_1 : decode cX4_empty 1 = .ok (.getfield 19, 3) := by decide +kernel
theorem dX4_empty_4 : decode cX4_empty 4 = .ok (.istore_n 1, 1) := by decide +kernel
theorem dX4_empty_5 : decode cX4_empty 5 = .ok (.aload_n 0, 1) := by decide +kernel
theorem dX4_empty_6 : decode cX4_empty 6 = .ok (.iconst 0, 1) := by decide +kernel
theorem dX4_empty_7 : decode cX4_empty 7 = .ok (.putfield 19, 3) := by decide +kernel
theorem dX4_empty_10 : decode cX4_empty 10 = .ok (.iload_n 1, 1) := by decide +kernel
theorem dX4_empty_11 : decode cX4_empty 11 = .ok (.ireturn, 1) := by decide +kernel
theorem dX4_doAll_0 : decode cX4_doAll 0 = .ok (.aload_n 0, 1) := by decide +kernel
theorem dX4_doAll_1 : decode cX4_doAll 1 = .ok (.iconst 0, 1) := by decide +kernel
theorem dX4_doAll_2 : decode cX4_doAll 2 = .ok (.putfield 24, 3) := by decide +kernel
theorem dX4_doAll_5 : decode cX4_doAll 5 = .ok (.aload_n 0, 1) := by decide +kernel
theorem dX4_doAll_6 : decode cX4_doAll 6 = .ok (.iconst 0, 1) := by decide +kernel
theorem dX4_doAll_7 : decode cX4_doAll 7 = .ok (.putfield 27, 3) := by decide +kernel
theorem dX4_doAll_10 : decode cX4_doAll 10 = .ok (.aload_n 0, 1) := by decide +kernel
theorem dX4_doAll_11 : decode cX4_doAll 11 = .ok (.iconst 0, 1) := by decide +kernel
theorem dX4_doAll_12 : decode cX4_doAll 12 = .ok (.putfield 30, 3) := by decide +kernel
theorem dX4_doAll_15 : decode cX4_doAll 15 = .ok (.aload_n 0, 1) := by decide +kernel
theorem dX4_doAll_16 : decode cX4_doAll 16 = .ok (.iconst 0, 1) := by decide +kernel
theorem dX4_doAll_17 : decode cX4_doAll 17 = .ok (.putfield 33, 3) := by decide +kernel
theorem dX4_doAll_20 : decode cX4_doAll 20 = .ok (.iconst 0, 1) := by decide +kernel
theorem dX4_doAll_21 : decode cX4_doAll 21 = .ok (.istore_n 2, 1) := by decide +kernel
theorem dX4_doAll_22 : decode cX4_doAll 22 = .ok (.iload_n 2, 1) := by decide +kernel
theorem dX4_doAll_23 : decode cX4_doAll 23 = .ok (.bipush 60, 2) := by decide +kernel
theorem dX4_doAll_25 : decode cX4_doAll 25 = .ok (.if_icmp .ge 72, 3) := by decide +kernel
theorem dX4_doAll_28 : decode cX4_doAll 28 = .ok (.aload_n 0, 1) := by decide +kernel
theorem dX4_doAll_29 : decode cX4_doAll 29 = .ok (.getfield 24, 3) := by decide +kernel
theorem dX4_doAll_32 : decode cX4_doAll 32 = .ok (.aload_n 0, 1) := by decide +kernel
theorem dX4_doAll_33 : decode cX4_doAll 33 = .ok (.getfield 19, 3) := by decide +kernel
theorem dX4_doAll_36 : decode cX4_doAll 36 = .ok (.if_icmp .ge 61, 3) := by decide +kernel
theorem dX4_doAll_39 : decode cX4_doAll 39 = .ok (.aload_n 0, 1) := by decide +kernel
theorem dX4_doAll_40 : decode cX4_doAll 40 = .ok (.getfield 30, 3) := by decide +kernel
theorem dX4_doAll_43 : decode cX4_doAll 43 = .ok (.ifCond .ne 54, 3) := by decide +kernel
theorem dX4_doAll_46 : decode cX4_doAll 46 = .ok (.aload_n 0, 1) := by decide +kernel
theorem dX4_doAll_47 : decode cX4_doAll 47 = .ok (.aload_n 0, 1) := by decide +kernel
theorem dX4_doAll_48 : decode cX4_doAll 48 = .ok (.getfield 24, 3) := by decide +kernel
theorem dX4_doAll_51 : decode cX4_doAll 51 = .ok (.putfield 27, 3) := by decide +kernel
theorem dX4_doAll_54 : decode cX4_doAll 54 = .ok (.aload_n 0, 1) := by decide +kernel
theorem dX4_doAll_55 : decode cX4_doAll 55 = .ok (.aload_n 0, 1) := by decide +kernel
theorem dX4_doAll_56 : decode cX4_doAll 56 = .ok (.invokevirtual 36, 3) := by decide +kernel
theorem dX4_doAll_59 : decode cX4_doAll 59 = .ok (.ifCond .eq 11, 3) := by decide +kernel
theorem dX4_doAll_62 : decode cX4_doAll 62 = .ok (.aload_n 0, 1) := by decide +kernel
theorem dX4_doAll_63 : decode cX4_doAll 63 = .ok (.aload_n 1, 1) := by decide +kernel
theorem dX4_doAll_64 : decode cX4_doAll 64 = .ok (.invokevirtual 40, 3) := by decide +kernel
theorem dX4_doAll_67 : decode cX4_doAll 67 = .ok (.goto 4, 3) := by decide +kernel
theorem dX4_doAll_70 : decode cX4_doAll 70 = .ok (.iconst 1, 1) := by decide +kernel
theorem dX4_doAll_71 : decode cX4_doAll 71 = .ok (.putfield 30, 3) := by decide +kernel
theorem dX4_doAll_74 : decode cX4_doAll 74 = .ok (.aload_n 0, 1) := by decide +kernel
theorem dX4_doAll_75 : decode cX4_doAll 75 = .ok (.getfield 30, 3) := by decide +kernel
theorem dX4_doAll_78 : decode cX4_doAll 78 = .ok (.ifCond .ne 13, 3) := by decide +kernel
theorem dX4_doAll_81 : decode cX4_doAll 81 = .ok (.aload_n 0, 1) := by decide +kernel
theorem dX4_doAll_82 : decode cX4_doAll 82 = .ok (.dup, 1) := by decide +kernel
theorem dX4_doAll_83 : decode cX4_doAll 83 = .ok (.getfield 33, 3) := by decide +kernel
theorem dX4_doAll_86 : decode cX4_doAll 86 = .ok (.iconst 1, 1) := by decide +kernel
theorem dX4_doAll_87 : decode cX4_doAll 87 = .ok (.iadd, 1) := by decide +kernel
theorem dX4_doAll_88 : decode cX4_doAll 88 = .ok (.putfield 33, 3) := by decide +kernel
theorem dX4_doAll_91 : decode cX4_doAll 91 = .ok (.iinc 2 1, 3) := by decide +kernel
theorem dX4_doAll_94 : decode cX4_doAll 94 = .ok (.goto (-72), 3) := by decide +kernel
theorem dX4_doAll_97 : decode cX4_doAll 97 = .ok (.return_, 1) := by decide +kernel
theorem dX4_readOrder_0 : decode cX4_readOrder 0 = .ok (.aload_n 0, 1) := by decide +kernel
theorem dX4_readOrder_1 : decode cX4_readOrder 1 = .ok (.getfield 9, 3) := by decide +kernel
theorem dX4_readOrder_4 : decode cX4_readOrder 4 = .ok (.aload_n 0, 1) := by decide +kernel
theorem dX4_readOrder_5 : decode cX4_readOrder 5 = .ok (.getfield 24, 3) := by decide +kernel
theorem dX4_readOrder_8 : decode cX4_readOrder 8 = .ok (.caload, 1) := by decide +kernel
theorem dX4_readOrder_9 : decode cX4_readOrder 9 = .ok (.invokestatic 44, 3) := by decide +kernel
theorem dX4_readOrder_12 : decode cX4_readOrder 12 = .ok (.istore_n 1, 1) := by decide +kernel
theorem dX4_readOrder_13 : decode cX4_readOrder 13 = .ok (.aload_n 0, 1) := by decide +kernel
theorem dX4_readOrder_14 : decode cX4_readOrder 14 = .ok (.dup, 1) := by decide +kernel
theorem dX4_readOrder_15 : decode cX4_readOrder 15 = .ok (.getfield 24, 3) := by decide +kernel
theorem dX4_readOrder_18 : decode cX4_readOrder 18 = .ok (.iconst 1, 1) := by decide +kernel
theorem dX4_readOrder_19 : decode cX4_readOrder 19 = .ok (.iadd, 1) := by decide +kernel
theorem dX4_readOrder_20 : decode cX4_readOrder 20 = .ok (.putfield 24, 3) := by decide +kernel
theorem dX4_readOrder_23 : decode cX4_readOrder 23 = .ok (.iconst 0, 1) := by decide +kernel
theorem dX4_readOrder_24 : decode cX4_readOrder 24 = .ok (.istore_n 2, 1) := by decide +kernel
theorem dX4_readOrder_25 : decode cX4_readOrder 25 = .ok (.iload_n 2, 1) := by decide +kernel
theorem dX4_readOrder_26 : decode cX4_readOrder 26 = .ok (.iload_n 1, 1) := by decide +kernel
theorem dX4_readOrder_27 : decode cX4_readOrder 27 = .ok (.if_icmp .ge 32, 3) := by decide +kernel
theorem dX4_readOrder_30 : decode cX4_readOrder 30 = .ok (.iload_n 2, 1) := by decide +kernel
theorem dX4_readOrder_31 : decode cX4_readOrder 31 = .ok (.ifCond .le 12, 3) := by decide +kernel
theorem dX4_readOrder_34 : decode cX4_readOrder 34 = .ok (.aload_n 0, 1) := by decide +kernel
theorem dX4_readOrder_35 : decode cX4_readOrder 35 = .ok (.bipush 44, 2) := by decide +kernel
theorem dX4_readOrder_37 : decode cX4_readOrder 37 = .ok (.invokevirtual 48, 3) := by decide +kernel
theorem dX4_readOrder_40 : decode cX4_readOrder 40 = .ok (.ifCond .eq 11, 3) := by decide +kernel
theorem dX4_readOrder_43 : decode cX4_readOrder 43 = .ok (.aload_n 0, 1) := by decide +kernel
theorem dX4_readOrder_44 : decode cX4_readOrder 44 = .ok (.iload_n 2, 1) := by decide +kernel
theorem dX4_readOrder_45 : decode cX4_readOrder 45 = .ok (.invokevirtual 52, 3) := by decide +kernel
theorem dX4_readOrder_48 : decode cX4_readOrder 48 = .ok (.ifCond .ne 5, 3) := by decide +kernel
theorem dX4_readOrder_51 : decode cX4_readOrder 51 = .ok (.iconst 0, 1) := by decide +kernel
theorem dX4_readOrder_52 : decode cX4_readOrder 52 = .ok (.ireturn, 1) := by decide +kernel
theorem dX4_readOrder_53 : decode cX4_readOrder 53 = .ok (.iinc 2 1, 3) := by decide +kernel
theorem dX4_readOrder_56 : decode cX4_readOrder 56 = .ok (.goto (-31), 3) := by decide +kernel
theorem dX4_readOrder_59 : decode cX4_readOrder 59 = .ok (.iload_n 1, 1) := by decide +kernel
theorem dX4_readOrder_60 : decode cX4_readOrder 60 = .ok (.ifCond .le 16, 3) := by decide +kernel
theorem dX4_readOrder_63 : decode cX4_readOrder 63 = .ok (.aload_n 0, 1) := by decide +kernel
theorem dX4_readOrder_64 : decode cX4_readOrder 64 = .ok (.bipush 59, 2) := by decide +kernel
theorem dX4_readOrder_66 : decode cX4_readOrder 66 = .ok (.invokevirtual 48, 3) := by decide +kernel
theorem dX4_readOrder_69 : decode cX4_readOrder 69 = .ok (.ifCond .eq 7, 3) := by decide +kernel
theorem dX4_readOrder_72 : decode cX4_readOrder 72 = .ok (.iconst 1, 1) := by decide +kernel
theorem dX4_readOrder_73 : decode cX4_readOrder 73 = .ok (.goto 4, 3) := by decide +kernel
theorem dX4_readOrder_76 : decode cX4_readOrder 76 = .ok (.iconst 0, 1) := by decide +kernel
theorem dX4_readOrder_77 : decode cX4_readOrder 77 = .ok (.ireturn, 1) := by decide +kernel
theorem dX4_numbersAfter_0 : decode cX4_numbersAfter 0 = .ok (.iload_n 0, 1) := by decide +kernel
theorem dX4_numbersAfter_1 : decode cX4_numbersAfter 1 = .ok (.lookupswitch 57 #[(98, 51), (102, 55), (103, 55), (112, 53), (114, 55)], 51) := by decide +kernel
theorem dX4_numbersAfter_52 : decode cX4_numbersAfter 52 = .ok (.iconst 3, 1) := by decide +kernel
theorem dX4_numbersAfter_53 : decode cX4_numbersAfter 53 = .ok (.ireturn, 1) := by decide +kernel
theorem dX4_numbersAfter_54 : decode cX4_numbersAfter 54 = .ok (.iconst 2, 1) := by decide +kernel
theorem dX4_numbersAfter_55 : decode cX4_numbersAfter 55 = .ok (.ireturn, 1) := by decide +kernel
theorem dX4_numbersAfter_56 : decode cX4_numbersAfter 56 = .ok (.iconst 1, 1) := by decide +kernel
theorem dX4_numbersAfter_57 : decode cX4_numbersAfter 57 = .ok (.ireturn, 1) := by decide +kernel
theorem dX4_numbersAfter_58 : decode cX4_numbersAfter 58 = .ok (.iconst 0, 1) := by decide +kernel
theorem dX4_numbersAfter_59 : decode cX4_numbersAfter 59 = .ok (.ireturn, 1) := by decide +kernel
theorem dX4_readSign_0 : decode cX4_readSign 0 = .ok (.aload_n 0, 1) := by decide +kernel
theorem dX4_readSign_1 : decode cX4_readSign 1 = .ok (.getfield 24, 3) := by decide +kernel
theorem dX4_readSign_4 : decode cX4_readSign 4 = .ok (.aload_n 0, 1) := by decide +kernel
theorem dX4_readSign_5 : decode cX4_readSign 5 = .ok (.getfield 19, 3) := by decide +kernel
theorem dX4_readSign_8 : decode cX4_readSign 8 = .ok (.if_icmp .ge 16, 3) := by decide +kernel
theorem dX4_readSign_11 : decode cX4_readSign 11 = .ok (.aload_n 0, 1) := by decide +kernel
theorem dX4_readSign_12 : decode cX4_readSign 12 = .ok (.getfield 9, 3) := by decide +kernel
theorem dX4_readSign_15 : decode cX4_readSign 15 = .ok (.aload_n 0, 1) := by decide +kernel
theorem dX4_readSign_16 : decode cX4_readSign 16 = .ok (.getfield 24, 3) := by decide +kernel
theorem dX4_readSign_19 : decode cX4_readSign 19 = .ok (.caload, 1) := by decide +kernel
theorem dX4_readSign_20 : decode cX4_readSign 20 = .ok (.iload_n 1, 1) := by decide +kernel
theorem dX4_readSign_21 : decode cX4_readSign 21 = .ok (.if_icmp .eq 5, 3) := by decide +kernel
theorem dX4_readSign_24 : decode cX4_readSign 24 = .ok (.iconst 0, 1) := by decide +kernel
theorem dX4_readSign_25 : decode cX4_readSign 25 = .ok (.ireturn, 1) := by decide +kernel
theorem dX4_readSign_26 : decode cX4_readSign 26 = .ok (.aload_n 0, 1) := by decide +kernel
theorem dX4_readSign_27 : decode cX4_readSign 27 = .ok (.dup, 1) := by decide +kernel
theorem dX4_readSign_28 : decode cX4_readSign 28 = .ok (.getfield 24, 3) := by decide +kernel
theorem dX4_readSign_31 : decode cX4_readSign 31 = .ok (.iconst 1, 1) := by decide +kernel
theorem dX4_readSign_32 : decode cX4_readSign 32 = .ok (.iadd, 1) := by decide +kernel
theorem dX4_readSign_33 : decode cX4_readSign 33 = .ok (.putfield 24, 3) := by decide +kernel
theorem dX4_readSign_36 : decode cX4_readSign 36 = .ok (.iconst 1, 1) := by decide +kernel
theorem dX4_readSign_37 : decode cX4_readSign 37 = .ok (.ireturn, 1) := by decide +kernel
theorem dX4_readNumber_0 : decode cX4_readNumber 0 = .ok (.iconst 0, 1) := by decide +kernel
theorem dX4_readNumber_1 : decode cX4_readNumber 1 = .ok (.istore_n 2, 1) := by decide +kernel
theorem dX4_readNumber_2 : decode cX4_readNumber 2 = .ok (.iconst 0, 1) := by decide +kernel
theorem dX4_readNumber_3 : decode cX4_readNumber 3 = .ok (.istore_n 3, 1) := by decide +kernel
theorem dX4_readNumber_4 : decode cX4_readNumber 4 = .ok (.iload_n 2, 1) := by decide +kernel
theorem dX4_readNumber_5 : decode cX4_readNumber 5 = .ok (.iconst 3, 1) := by decide +kernel
theorem dX4_readNumber_6 : decode cX4_readNumber 6 = .ok (.if_icmp .ge 67, 3) := by decide +kernel
theorem dX4_readNumber_9 : decode cX4_readNumber 9 = .ok (.aload_n 0, 1) := by decide +kernel
theorem dX4_readNumber_10 : decode cX4_readNumber 10 = .ok (.getfield 24, 3) := by decide +kernel
theorem dX4_readNumber_13 : decode cX4_readNumber 13 = .ok (.aload_n 0, 1) := by decide +kernel
theorem dX4_readNumber_14 : decode cX4_readNumber 14 = .ok (.getfield 19, 3) := by decide +kernel
theorem dX4_readNumber_17 : decode cX4_readNumber 17 = .ok (.if_icmp .ge 56, 3) := by decide +kernel
theorem dX4_readNumber_20 : decode cX4_readNumber 20 = .ok (.aload_n 0, 1) := by decide +kernel
theorem dX4_readNumber_21 : decode cX4_readNumber 21 = .ok (.getfield 9, 3) := by decide +kernel
theorem dX4_readNumber_24 : decode cX4_readNumber 24 = .ok (.aload_n 0, 1) := by decide +kernel
theorem dX4_readNumber_25 : decode cX4_readNumber 25 = .ok (.getfield 24, 3) := by decide +kernel
theorem dX4_readNumber_28 : decode cX4_readNumber 28 = .ok (.caload, 1) := by decide +kernel
theorem dX4_readNumber_29 : decode cX4_readNumber 29 = .ok (.bipush 48, 2) := by decide +kernel
theorem dX4_readNumber_31 : decode cX4_readNumber 31 = .ok (.bipush 57, 2) := by decide +kernel
theorem dX4_readNumber_33 : decode cX4_readNumber 33 = .ok (.invokestatic 56, 3) := by decide +kernel
theorem dX4_readNumber_36 : decode cX4_readNumber 36 = .ok (.ifCond .eq 37, 3) := by decide +kernel
theorem dX4_readNumber_39 : decode cX4_readNumber 39 = .ok (.iload_n 3, 1) := by decide +kernel
theorem dX4_readNumber_40 : decode cX4_readNumber 40 = .ok (.bipush 10, 2) := by decide +kernel
theorem dX4_readNumber_42 : decode cX4_readNumber 42 = .ok (.imul, 1) := by decide +kernel
theorem dX4_readNumber_43 : decode cX4_readNumber 43 = .ok (.aload_n 0, 1) := by decide +kernel
theorem dX4_readNumber_44 : decode cX4_readNumber 44 = .ok (.getfield 9, 3) := by decide +kernel
theorem dX4_readNumber_47 : decode cX4_readNumber 47 = .ok (.aload_n 0, 1) := by decide +kernel
theorem dX4_readNumber_48 : decode cX4_readNumber 48 = .ok (.getfield 24, 3) := by decide +kernel
theorem dX4_readNumber_51 : decode cX4_readNumber 51 = .ok (.caload, 1) := by decide +kernel
theorem dX4_readNumber_52 : decode cX4_readNumber 52 = .ok (.bipush 48, 2) := by decide +kernel
theorem dX4_readNumber_54 : decode cX4_readNumber 54 = .ok (.isub, 1) := by decide +kernel
theorem dX4_readNumber_55 : decode cX4_readNumber 55 = .ok (.iadd, 1) := by decide +kernel
theorem dX4_readNumber_56 : decode cX4_readNumber 56 = .ok (.istore_n 3, 1) := by decide +kernel
theorem dX4_readNumber_57 : decode cX4_readNumber 57 = .ok (.aload_n 0, 1) := by decide +kernel
theorem dX4_readNumber_58 : decode cX4_readNumber 58 = .ok (.dup, 1) := by decide +kernel
theorem dX4_readNumber_59 : decode cX4_readNumber 59 = .ok (.getfield 24, 3) := by decide +kernel
theorem dX4_readNumber_62 : decode cX4_readNumber 62 = .ok (.iconst 1, 1) := by decide +kernel
theorem dX4_readNumber_63 : decode cX4_readNumber 63 = .ok (.iadd, 1) := by decide +kernel
theorem dX4_readNumber_64 : decode cX4_readNumber 64 = .ok (.putfield 24, 3) := by decide +kernel
theorem dX4_readNumber_67 : decode cX4_readNumber 67 = .ok (.iinc 2 1, 3) := by decide +kernel
theorem dX4_readNumber_70 : decode cX4_readNumber 70 = .ok (.goto (-66), 3) := by decide +kernel
theorem dX4_readNumber_73 : decode cX4_readNumber 73 = .ok (.aload_n 0, 1) := by decide +kernel
theorem dX4_readNumber_74 : decode cX4_readNumber 74 = .ok (.getfield 15, 3) := by decide +kernel
theorem dX4_readNumber_77 : decode cX4_readNumber 77 = .ok (.iload_n 1, 1) := by decide +kernel
theorem dX4_readNumber_78 : decode cX4_readNumber 78 = .ok (.iload_n 3, 1) := by decide +kernel
theorem dX4_readNumber_79 : decode cX4_readNumber 79 = .ok (.iastore, 1) := by decide +kernel
theorem dX4_readNumber_80 : decode cX4_readNumber 80 = .ok (.iload_n 2, 1) := by decide +kernel
theorem dX4_readNumber_81 : decode cX4_readNumber 81 = .ok (.ifCond .le 7, 3) := by decide +kernel
theorem dX4_readNumber_84 : decode cX4_readNumber 84 = .ok (.iconst 1, 1) := by decide +kernel
theorem dX4_readNumber_85 : decode cX4_readNumber 85 = .ok (.goto 4, 3) := by decide +kernel
theorem dX4_readNumber_88 : decode cX4_readNumber 88 = .ok (.iconst 0, 1) := by decide +kernel
theorem dX4_readNumber_89 : decode cX4_readNumber 89 = .ok (.ireturn, 1) := by decide +kernel
theorem dX4_doOrder_0 : decode cX4_doOrder 0 = .ok (.aload_n 0, 1) := by decide +kernel
theorem dX4_doOrder_1 : decode cX4_doOrder 1 = .ok (.aload_n 1, 1) := by decide +kernel
theorem dX4_doOrder_2 : decode cX4_doOrder 2 = .ok (.invokevirtual 60, 3) := by decide +kernel
theorem dX4_doOrder_5 : decode cX4_doOrder 5 = .ok (.ifCond .ne 5, 3) := by decide +kernel
theorem dX4_doOrder_8 : decode cX4_doOrder 8 = .ok (.iconst 2, 1) := by decide +kernel
theorem dX4_doOrder_9 : decode cX4_doOrder 9 = .ok (.ireturn, 1) := by decide +kernel
theorem dX4_doOrder_10 : decode cX4_doOrder 10 = .ok (.aload_n 0, 1) := by decide +kernel
theorem dX4_doOrder_11 : decode cX4_doOrder 11 = .ok (.aload_n 1, 1) := by decide +kernel
theorem dX4_doOrder_12 : decode cX4_doOrder 12 = .ok (.invokevirtual 64, 3) := by decide +kernel
theorem dX4_doOrder_15 : decode cX4_doOrder 15 = .ok (.ifCond .ge 7, 3) := by decide +kernel
theorem dX4_doOrder_18 : decode cX4_doOrder 18 = .ok (.iconst 3, 1) := by decide +kernel
theorem dX4_doOrder_19 : decode cX4_doOrder 19 = .ok (.goto 4, 3) := by decide +kernel
theorem dX4_doOrder_22 : decode cX4_doOrder 22 = .ok (.iconst 0, 1) := by decide +kernel
theorem dX4_doOrder_23 : decode cX4_doOrder 23 = .ok (.ireturn, 1) := by decide +kernel
theorem dX4_isKnown_0 : decode cX4_isKnown 0 = .ok (.aload_n 0, 1) := by decide +kernel
theorem dX4_isKnown_1 : decode cX4_isKnown 1 = .ok (.getfield 9, 3) := by decide +kernel
theorem dX4_isKnown_4 : decode cX4_isKnown 4 = .ok (.aload_n 0, 1) := by decide +kernel
theorem dX4_isKnown_5 : decode cX4_isKnown 5 = .ok (.getfield 27, 3) := by decide +kernel
theorem dX4_isKnown_8 : decode cX4_isKnown 8 = .ok (.caload, 1) := by decide +kernel
theorem dX4_isKnown_9 : decode cX4_isKnown 9 = .ok (.lookupswitch 61 #[(98, 27), (103, 59)], 27) := by decide +kernel
theorem dX4_isKnown_36 : decode cX4_isKnown 36 = .ok (.aload_n 1, 1) := by decide +kernel
theorem dX4_isKnown_37 : decode cX4_isKnown 37 = .ok (.aload_n 0, 1) := by decide +kernel
theorem dX4_isKnown_38 : decode cX4_isKnown 38 = .ok (.getfield 15, 3) := by decide +kernel
theorem dX4_isKnown_41 : decode cX4_isKnown 41 = .ok (.iconst 0, 1) := by decide +kernel
theorem dX4_isKnown_42 : decode cX4_isKnown 42 = .ok (.iaload, 1) := by decide +kernel
theorem dX4_isKnown_43 : decode cX4_isKnown 43 = .ok (.invokevirtual 67, 3) := by decide +kernel
theorem dX4_isKnown_46 : decode cX4_isKnown 46 = .ok (.ifCond .eq 20, 3) := by decide +kernel
theorem dX4_isKnown_49 : decode cX4_isKnown 49 = .ok (.aload_n 1, 1) := by decide +kernel
theorem dX4_isKnown_50 : decode cX4_isKnown 50 = .ok (.aload_n 0, 1) := by decide +kernel
theorem dX4_isKnown_51 : decode cX4_isKnown 51 = .ok (.getfield 15, 3) := by decide +kernel
theorem dX4_isKnown_54 : decode cX4_isKnown 54 = .ok (.iconst 1, 1) := by decide +kernel
theorem dX4_isKnown_55 : decode cX4_isKnown 55 = .ok (.iaload, 1) := by decide +kernel
theorem dX4_isKnown_56 : decode cX4_isKnown 56 = .ok (.invokevirtual 72, 3) := by decide +kernel
theorem dX4_isKnown_59 : decode cX4_isKnown 59 = .ok (.ifCond .eq 7, 3) := by decide +kernel
theorem dX4_isKnown_62 : decode cX4_isKnown 62 = .ok (.iconst 1, 1) := by decide +kernel
theorem dX4_isKnown_63 : decode cX4_isKnown 63 = .ok (.goto 4, 3) := by decide +kernel
theorem dX4_isKnown_66 : decode cX4_isKnown 66 = .ok (.iconst 0, 1) := by decide +kernel
theorem dX4_isKnown_67 : decode cX4_isKnown 67 = .ok (.ireturn, 1) := by decide +kernel
theorem dX4_isKnown_68 : decode cX4_isKnown 68 = .ok (.iconst 1, 1) := by decide +kernel
theorem dX4_isKnown_69 : decode cX4_isKnown 69 = .ok (.ireturn, 1) := by decide +kernel
theorem dX4_isKnown_70 : decode cX4_isKnown 70 = .ok (.aload_n 1, 1) := by decide +kernel
theorem dX4_isKnown_71 : decode cX4_isKnown 71 = .ok (.aload_n 0, 1) := by decide +kernel
theorem dX4_isKnown_72 : decode cX4_isKnown 72 = .ok (.getfield 15, 3) := by decide +kernel
theorem dX4_isKnown_75 : decode cX4_isKnown 75 = .ok (.iconst 0, 1) := by decide +kernel
theorem dX4_isKnown_76 : decode cX4_isKnown 76 = .ok (.iaload, 1) := by decide +kernel
theorem dX4_isKnown_77 : decode cX4_isKnown 77 = .ok (.invokevirtual 75, 3) := by decide +kernel
theorem dX4_isKnown_80 : decode cX4_isKnown 80 = .ok (.ireturn, 1) := by decide +kernel
theorem dX4_answerOf_0 : decode cX4_answerOf 0 = .ok (.aload_n 0, 1) := by decide +kernel
theorem dX4_answerOf_1 : decode cX4_answerOf 1 = .ok (.getfield 9, 3) := by decide +kernel
theorem dX4_answerOf_4 : decode cX4_answerOf 4 = .ok (.aload_n 0, 1) := by decide +kernel
theorem dX4_answerOf_5 : decode cX4_answerOf 5 = .ok (.getfield 27, 3) := by decide +kernel
theorem dX4_answerOf_8 : decode cX4_answerOf 8 = .ok (.caload, 1) := by decide +kernel
theorem dX4_answerOf_9 : decode cX4_answerOf 9 = .ok (.lookupswitch 105 #[(98, 43), (102, 66), (112, 77), (114, 94)], 43) := by decide +kernel
theorem dX4_answerOf_52 : decode cX4_answerOf 52 = .ok (.aload_n 1, 1) := by decide +kernel
theorem dX4_answerOf_53 : decode cX4_answerOf 53 = .ok (.aload_n 0, 1) := by decide +kernel
theorem dX4_answerOf_54 : decode cX4_answerOf 54 = .ok (.getfield 15, 3) := by decide +kernel
theorem dX4_answerOf_57 : decode cX4_answerOf 57 = .ok (.iconst 0, 1) := by decide +kernel
theorem dX4_answerOf_58 : decode cX4_answerOf 58 = .ok (.iaload, 1) := by decide +kernel
theorem dX4_answerOf_59 : decode cX4_answerOf 59 = .ok (.aload_n 0, 1) := by decide +kernel
theorem dX4_answerOf_60 : decode cX4_answerOf 60 = .ok (.getfield 15, 3) := by decide +kernel
theorem dX4_answerOf_63 : decode cX4_answerOf 63 = .ok (.iconst 1, 1) := by decide +kernel
theorem dX4_answerOf_64 : decode cX4_answerOf 64 = .ok (.iaload, 1) := by decide +kernel
theorem dX4_answerOf_65 : decode cX4_answerOf 65 = .ok (.aload_n 0, 1) := by decide +kernel
theorem dX4_answerOf_66 : decode cX4_answerOf 66 = .ok (.getfield 15, 3) := by decide +kernel
theorem dX4_answerOf_69 : decode cX4_answerOf 69 = .ok (.iconst 2, 1) := by decide +kernel
theorem dX4_answerOf_70 : decode cX4_answerOf 70 = .ok (.iaload, 1) := by decide +kernel
theorem dX4_answerOf_71 : decode cX4_answerOf 71 = .ok (.invokevirtual 78, 3) := by decide +kernel
theorem dX4_answerOf_74 : decode cX4_answerOf 74 = .ok (.ireturn, 1) := by decide +kernel
theorem dX4_answerOf_75 : decode cX4_answerOf 75 = .ok (.aload_n 1, 1) := by decide +kernel
theorem dX4_answerOf_76 : decode cX4_answerOf 76 = .ok (.aload_n 0, 1) := by decide +kernel
theorem dX4_answerOf_77 : decode cX4_answerOf 77 = .ok (.getfield 15, 3) := by decide +kernel
theorem dX4_answerOf_80 : decode cX4_answerOf 80 = .ok (.iconst 0, 1) := by decide +kernel
theorem dX4_answerOf_81 : decode cX4_answerOf 81 = .ok (.iaload, 1) := by decide +kernel
theorem dX4_answerOf_82 : decode cX4_answerOf 82 = .ok (.invokevirtual 82, 3) := by decide +kernel
theorem dX4_answerOf_85 : decode cX4_answerOf 85 = .ok (.ireturn, 1) := by decide +kernel
theorem dX4_answerOf_86 : decode cX4_answerOf 86 = .ok (.aload_n 1, 1) := by decide +kernel
theorem dX4_answerOf_87 : decode cX4_answerOf 87 = .ok (.aload_n 0, 1) := by decide +kernel
theorem dX4_answerOf_88 : decode cX4_answerOf 88 = .ok (.getfield 15, 3) := by decide +kernel
theorem dX4_answerOf_91 : decode cX4_answerOf 91 = .ok (.iconst 0, 1) := by decide +kernel
theorem dX4_answerOf_92 : decode cX4_answerOf 92 = .ok (.iaload, 1) := by decide +kernel
theorem dX4_answerOf_93 : decode cX4_answerOf 93 = .ok (.aload_n 0, 1) := by decide +kernel
theorem dX4_answerOf_94 : decode cX4_answerOf 94 = .ok (.getfield 15, 3) := by decide +kernel
theorem dX4_answerOf_97 : decode cX4_answerOf 97 = .ok (.iconst 1, 1) := by decide +kernel
theorem dX4_answerOf_98 : decode cX4_answerOf 98 = .ok (.iaload, 1) := by decide +kernel
theorem dX4_answerOf_99 : decode cX4_answerOf 99 = .ok (.invokevirtual 86, 3) := by decide +kernel
theorem dX4_answerOf_102 : decode cX4_answerOf 102 = .ok (.ireturn, 1) := by decide +kernel
theorem dX4_answerOf_103 : decode cX4_answerOf 103 = .ok (.aload_n 1, 1) := by decide +kernel
theorem dX4_answerOf_104 : decode cX4_answerOf 104 = .ok (.aload_n 0, 1) := by decide +kernel
theorem dX4_answerOf_105 : decode cX4_answerOf 105 = .ok (.getfield 15, 3) := by decide +kernel
theorem dX4_answerOf_108 : decode cX4_answerOf 108 = .ok (.iconst 0, 1) := by decide +kernel
theorem dX4_answerOf_109 : decode cX4_answerOf 109 = .ok (.iaload, 1) := by decide +kernel
theorem dX4_answerOf_110 : decode cX4_answerOf 110 = .ok (.invokevirtual 90, 3) := by decide +kernel
theorem dX4_answerOf_113 : decode cX4_answerOf 113 = .ok (.ireturn, 1) := by decide +kernel
theorem dX4_answerOf_114 : decode cX4_answerOf 114 = .ok (.aload_n 1, 1) := by decide +kernel
theorem dX4_answerOf_115 : decode cX4_answerOf 115 = .ok (.aload_n 0, 1) := by decide +kernel
theorem dX4_answerOf_116 : decode cX4_answerOf 116 = .ok (.getfield 15, 3) := by decide +kernel
theorem dX4_answerOf_119 : decode cX4_answerOf 119 = .ok (.iconst 0, 1) := by decide +kernel
theorem dX4_answerOf_120 : decode cX4_answerOf 120 = .ok (.iaload, 1) := by decide +kernel
theorem dX4_answerOf_121 : decode cX4_answerOf 121 = .ok (.invokevirtual 93, 3) := by decide +kernel
theorem dX4_answerOf_124 : decode cX4_answerOf 124 = .ok (.ireturn, 1) := by decide +kernel
theorem dX5_init_0 : decode cX5_init 0 = .ok (.aload_n 0, 1) := by decide +kernel
theorem dX5_init_1 : decode cX5_init 1 = .ok (.invokespecial 3, 3) := by decide +kernel
theorem dX5_init_4 : decode cX5_init 4 = .ok (.return_, 1) := by decide +kernel
theorem dX5_takeFrom_0 : decode cX5_takeFrom 0 = .ok (.aload_n 0, 1) := by decide +kernel
theorem dX5_takeFrom_1 : decode cX5_takeFrom 1 = .ok (.aload_n 1, 1) := by decide +kernel
theorem dX5_takeFrom_2 : decode cX5_takeFrom 2 = .ok (.getfield 9, 3) := by decide +kernel
theorem dX5_takeFrom_5 : decode cX5_takeFrom 5 = .ok (.putfield 9, 3) := by decide +kernel
theorem dX5_takeFrom_8 : decode cX5_takeFrom 8 = .ok (.aload_n 0, 1) := by decide +kernel
theorem dX5_takeFrom_9 : decode cX5_takeFrom 9 = .ok (.aload_n 1, 1) := by decide +kernel
theorem dX5_takeFrom_10 : decode cX5_takeFrom 10 = .ok (.getfield 15, 3) := by decide +kernel
theorem dX5_takeFrom_13 : decode cX5_takeFrom 13 = .ok (.putfield 15, 3) := by decide +kernel
theorem dX5_takeFrom_16 : decode cX5_takeFrom 16 = .ok (.aload_n 0, 1) := by decide +kernel
theorem dX5_takeFrom_17 : decode cX5_takeFrom 17 = .ok (.aload_n 1, 1) := by decide +kernel
theorem dX5_takeFrom_18 : decode cX5_takeFrom 18 = .ok (.getfield 18, 3) := by decide +kernel
theorem dX5_takeFrom_21 : decode cX5_takeFrom 21 = .ok (.putfield 18, 3) := by decide +kernel
theorem dX5_takeFrom_24 : decode cX5_takeFrom 24 = .ok (.aload_n 0, 1) := by decide +kernel
theorem dX5_takeFrom_25 : decode cX5_takeFrom 25 = .ok (.aload_n 1, 1) := by decide +kernel
theorem dX5_takeFrom_26 : decode cX5_takeFrom 26 = .ok (.getfield 21, 3) := by decide +kernel
theorem dX5_takeFrom_29 : decode cX5_takeFrom 29 = .ok (.putfield 21, 3) := by decide +kernel
theorem dX5_takeFrom_32 : decode cX5_takeFrom 32 = .ok (.aload_n 0, 1) := by decide +kernel
theorem dX5_takeFrom_33 : decode cX5_takeFrom 33 = .ok (.aload_n 1, 1) := by decide +kernel
theorem dX5_takeFrom_34 : decode cX5_takeFrom 34 = .ok (.getfield 24, 3) := by decide +kernel
theorem dX5_takeFrom_37 : decode cX5_takeFrom 37 = .ok (.putfield 24, 3) := by decide +kernel
theorem dX5_takeFrom_40 : decode cX5_takeFrom 40 = .ok (.aload_n 0, 1) := by decide +kernel
theorem dX5_takeFrom_41 : decode cX5_takeFrom 41 = .ok (.aload_n 1, 1) := by decide +kernel
theorem dX5_takeFrom_42 : decode cX5_takeFrom 42 = .ok (.getfield 27, 3) := by decide +kernel
theorem dX5_takeFrom_45 : decode cX5_takeFrom 45 = .ok (.putfield 27, 3) := by decide +kernel
theorem dX5_takeFrom_48 : decode cX5_takeFrom 48 = .ok (.aload_n 0, 1) := by decide +kernel
theorem dX5_takeFrom_49 : decode cX5_takeFrom 49 = .ok (.aload_n 1, 1) := by decide +kernel
theorem dX5_takeFrom_50 : decode cX5_takeFrom 50 = .ok (.getfield 30, 3) := by decide +kernel
theorem dX5_takeFrom_53 : decode cX5_takeFrom 53 = .ok (.putfield 30, 3) := by decide +kernel
theorem dX5_takeFrom_56 : decode cX5_takeFrom 56 = .ok (.aload_n 0, 1) := by decide +kernel
theorem dX5_takeFrom_57 : decode cX5_takeFrom 57 = .ok (.aload_n 1, 1) := by decide +kernel
theorem dX5_takeFrom_58 : decode cX5_takeFrom 58 = .ok (.getfield 33, 3) := by decide +kernel
theorem dX5_takeFrom_61 : decode cX5_takeFrom 61 = .ok (.putfield 33, 3) := by decide +kernel
theorem dX5_takeFrom_64 : decode cX5_takeFrom 64 = .ok (.aload_n 0, 1) := by decide +kernel
theorem dX5_takeFrom_65 : decode cX5_takeFrom 65 = .ok (.aload_n 1, 1) := by decide +kernel
theorem dX5_takeFrom_66 : decode cX5_takeFrom 66 = .ok (.getfield 36, 3) := by decide +kernel
theorem dX5_takeFrom_69 : decode cX5_takeFrom 69 = .ok (.putfield 36, 3) := by decide +kernel
theorem dX5_takeFrom_72 : decode cX5_takeFrom 72 = .ok (.aload_n 0, 1) := by decide +kernel
theorem dX5_takeFrom_73 : decode cX5_takeFrom 73 = .ok (.aload_n 1, 1) := by decide +kernel
theorem dX5_takeFrom_74 : decode cX5_takeFrom 74 = .ok (.getfield 39, 3) := by decide +kernel
theorem dX5_takeFrom_77 : decode cX5_takeFrom 77 = .ok (.putfield 39, 3) := by decide +kernel
theorem dX5_takeFrom_80 : decode cX5_takeFrom 80 = .ok (.aload_n 0, 1) := by decide +kernel
theorem dX5_takeFrom_81 : decode cX5_takeFrom 81 = .ok (.aload_n 1, 1) := by decide +kernel
theorem dX5_takeFrom_82 : decode cX5_takeFrom 82 = .ok (.getfield 42, 3) := by decide +kernel
theorem dX5_takeFrom_85 : decode cX5_takeFrom 85 = .ok (.putfield 42, 3) := by decide +kernel
theorem dX5_takeFrom_88 : decode cX5_takeFrom 88 = .ok (.aload_n 0, 1) := by decide +kernel
theorem dX5_takeFrom_89 : decode cX5_takeFrom 89 = .ok (.aload_n 1, 1) := by decide +kernel
theorem dX5_takeFrom_90 : decode cX5_takeFrom 90 = .ok (.getfield 45, 3) := by decide +kernel
theorem dX5_takeFrom_93 : decode cX5_takeFrom 93 = .ok (.putfield 45, 3) := by decide +kernel
theorem dX5_takeFrom_96 : decode cX5_takeFrom 96 = .ok (.aload_n 0, 1) := by decide +kernel
theorem dX5_takeFrom_97 : decode cX5_takeFrom 97 = .ok (.aload_n 1, 1) := by decide +kernel
theorem dX5_takeFrom_98 : decode cX5_takeFrom 98 = .ok (.getfield 48, 3) := by decide +kernel
theorem dX5_takeFrom_101 : decode cX5_takeFrom 101 = .ok (.putfield 48, 3) := by decide +kernel
theorem dX5_takeFrom_104 : decode cX5_takeFrom 104 = .ok (.aload_n 0, 1) := by decide +kernel
theorem dX5_takeFrom_105 : decode cX5_takeFrom 105 = .ok (.aload_n 1, 1) := by decide +kernel
theorem dX5_takeFrom_106 : decode cX5_takeFrom 106 = .ok (.getfield 51, 3) := by decide +kernel
theorem dX5_takeFrom_109 : decode cX5_takeFrom 109 = .ok (.putfield 51, 3) := by decide +kernel
theorem dX5_takeFrom_112 : decode cX5_takeFrom 112 = .ok (.aload_n 0, 1) := by decide +kernel
theorem dX5_takeFrom_113 : decode cX5_takeFrom 113 = .ok (.aload_n 1, 1) := by decide +kernel
theorem dX5_takeFrom_114 : decode cX5_takeFrom 114 = .ok (.getfield 54, 3) := by decide +kernel
theorem dX5_takeFrom_117 : decode cX5_takeFrom 117 = .ok (.putfield 54, 3) := by decide +kernel
theorem dX5_takeFrom_120 : decode cX5_takeFrom 120 = .ok (.aload_n 0, 1) := by decide +kernel
theorem dX5_takeFrom_121 : decode cX5_takeFrom 121 = .ok (.aload_n 1, 1) := by decide +kernel
theorem dX5_takeFrom_122 : decode cX5_takeFrom 122 = .ok (.getfield 57, 3) := by decide +kernel
theorem dX5_takeFrom_125 : decode cX5_takeFrom 125 = .ok (.putfield 57, 3) := by decide +kernel
theorem dX5_takeFrom_128 : decode cX5_takeFrom 128 = .ok (.aload_n 0, 1) := by decide +kernel
theorem dX5_takeFrom_129 : decode cX5_takeFrom 129 = .ok (.aload_n 1, 1) := by decide +kernel
theorem dX5_takeFrom_130 : decode cX5_takeFrom 130 = .ok (.getfield 60, 3) := by decide +kernel
theorem dX5_takeFrom_133 : decode cX5_takeFrom 133 = .ok (.putfield 60, 3) := by decide +kernel
theorem dX5_takeFrom_136 : decode cX5_takeFrom 136 = .ok (.return_, 1) := by decide +kernel
theorem dX5_begin_0 : decode cX5_begin 0 = .ok (.aload_n 0, 1) := by decide +kernel
theorem dX5_begin_1 : decode cX5_begin 1 = .ok (.iload_n 1, 1) := by decide +kernel
theorem dX5_begin_2 : decode cX5_begin 2 = .ok (.putfield 9, 3) := by decide +kernel
theorem dX5_begin_5 : decode cX5_begin 5 = .ok (.aload_n 0, 1) := by decide +kernel
theorem dX5_begin_6 : decode cX5_begin 6 = .ok (.iload_n 2, 1) := by decide +kernel
theorem dX5_begin_7 : decode cX5_begin 7 = .ok (.putfield 15, 3) := by decide +kernel
theorem dX5_begin_10 : decode cX5_begin 10 = .ok (.aload_n 0, 1) := by decide +kernel
theorem dX5_begin_11 : decode cX5_begin 11 = .ok (.aload_n 3, 1) := by decide +kernel
theorem dX5_begin_12 : decode cX5_begin 12 = .ok (.getfield 63, 3) := by decide +kernel
theorem dX5_begin_15 : decode cX5_begin 15 = .ok (.putfield 18, 3) := by decide +kernel
theorem dX5_begin_18 : decode cX5_begin 18 = .ok (.aload_n 0, 1) := by decide +kernel
theorem dX5_begin_19 : decode cX5_begin 19 = .ok (.aload_n 3, 1) := by decide +kernel
theorem dX5_begin_20 : decode cX5_begin 20 = .ok (.getfield 66, 3) := by decide +kernel
theorem dX5_begin_23 : decode cX5_begin 23 = .ok (.putfield 21, 3) := by decide +kernel
theorem dX5_begin_26 : decode cX5_begin 26 = .ok (.aload_n 0, 1) := by decide +kernel
theorem dX5_begin_27 : decode cX5_begin 27 = .ok (.aload_n 3, 1) := by decide +kernel
theorem dX5_begin_28 : decode cX5_begin 28 = .ok (.getfield 67, 3) := by decide +kernel
theorem dX5_begin_31 : decode cX5_begin 31 = .ok (.putfield 24, 3) := by decide +kernel
theorem dX5_begin_34 : decode cX5_begin 34 = .ok (.aload_n 0, 1) := by decide +kernel
theorem dX5_begin_35 : decode cX5_begin 35 = .ok (.iload 4, 2) := by decide +kernel
theorem dX5_begin_37 : decode cX5_begin 37 = .ok (.putfield 27, 3) := by decide +kernel
theorem dX5_begin_40 : decode cX5_begin 40 = .ok (.aload_n 0, 1) := by decide +kernel
theorem dX5_begin_41 : decode cX5_begin 41 = .ok (.iconst 0, 1) := by decide +kernel
theorem dX5_begin_42 : decode cX5_begin 42 = .ok (.putfield 30, 3) := by decide +kernel
theorem dX5_begin_45 : decode cX5_begin 45 = .ok (.aload_n 0, 1) := by decide +kernel
theorem dX5_begin_46 : decode cX5_begin 46 = .ok (.iconst 0, 1) := by decide +kernel
theorem dX5_begin_47 : decode cX5_begin 47 = .ok (.putfield 33, 3) := by decide +kernel
theorem dX5_begin_50 : decode cX5_begin 50 = .ok (.aload_n 0, 1) := by decide +kernel
theorem dX5_begin_51 : decode cX5_begin 51 = .ok (.iconst 0, 1) := by decide +kernel
theorem dX5_begin_52 : decode cX5_begin 52 = .ok (.putfield 36, 3) := by decide +kernel
theorem dX5_begin_55 : decode cX5_begin 55 = .ok (.aload_n 0, 1) := by decide +kernel
theorem dX5_begin_56 : decode cX5_begin 56 = .ok (.iconst 0, 1) := by decide +kernel
theorem dX5_begin_57 : decode cX5_begin 57 = .ok (.putfield 39, 3) := by decide +kernel
theorem dX5_begin_60 : decode cX5_begin 60 = .ok (.aload_n 0, 1) := by decide +kernel
theorem dX5_begin_61 : decode cX5_begin 61 = .ok (.iconst 0, 1) := by decide +kernel
theorem dX5_begin_62 : decode cX5_begin 62 = .ok (.putfield 42, 3) := by decide +kernel
theorem dX5_begin_65 : decode cX5_begin 65 = .ok (.aload_n 0, 1) := by decide +kernel
theorem dX5_begin_66 : decode cX5_begin 66 = .ok (.invokevirtual 68, 3) := by decide +kernel
theorem dX5_begin_69 : decode cX5_begin 69 = .ok (.aload_n 0, 1) := by decide +kernel
theorem dX5_begin_70 : decode cX5_begin 70 = .ok (.iconst 0, 1) := by decide +kernel
theorem dX5_begin_71 : decode cX5_begin 71 = .ok (.putfield 57, 3) := by decide +kernel
theorem dX5_begin_74 : decode cX5_begin 74 = .ok (.aload_n 0, 1) := by decide +kernel
theorem dX5_begin_75 : decode cX5_begin 75 = .ok (.iconst 0, 1) := by decide +kernel
theorem dX5_begin_76 : decode cX5_begin 76 = .ok (.putfield 60, 3) := by decide +kernel
theorem dX5_begin_79 : decode cX5_begin 79 = .ok (.return_, 1) := by decide +kernel
theorem dX5_addGround_0 : decode cX5_addGround 0 = .ok (.aload_n 0, 1) := by decide +kernel
theorem dX5_addGround_1 : decode cX5_addGround 1 = .ok (.dup, 1) := by decide +kernel
theorem dX5_addGround_2 : decode cX5_addGround 2 = .ok (.getfield 33, 3) := by decide +kernel
theorem dX5_addGround_5 : decode cX5_addGround 5 = .ok (.iload_n 1, 1) := by decide +kernel
theorem dX5_addGround_6 : decode cX5_addGround 6 = .ok (.iadd, 1) := by decide +kernel
theorem dX5_addGround_7 : decode cX5_addGround 7 = .ok (.putfield 33, 3) := by decide +kernel
theorem dX5_addGround_10 : decode cX5_addGround 10 = .ok (.aload_n 0, 1) := by decide +kernel
theorem dX5_addGround_11 : decode cX5_addGround 11 = .ok (.aload_n 0, 1) := by decide +kernel
theorem dX5_addGround_12 : decode cX5_addGround 12 = .ok (.getfield 33, 3) := by decide +kernel
theorem dX5_addGround_15 : decode cX5_addGround 15 = .ok (.aload_n 0, 1) := by decide +kernel
theorem dX5_addGround_16 : decode cX5_addGround 16 = .ok (.getfield 36, 3) := by decide +kernel
theorem dX5_addGround_19 : decode cX5_addGround 19 = .ok (.imul, 1) := by decide +kernel
theorem dX5_addGround_20 : decode cX5_addGround 20 = .ok (.bipush 100, 2) := by decide +kernel
theorem dX5_addGround_22 : decode cX5_addGround 22 = .ok (.idiv, 1) := by decide +kernel
theorem dX5_addGround_23 : decode cX5_addGround 23 = .ok (.putfield 39, 3) := by decide +kernel
theorem dX5_addGround_26 : decode cX5_addGround 26 = .ok (.aload_n 0, 1) := by decide +kernel
theorem dX5_addGround_27 : decode cX5_addGround 27 = .ok (.aload_n 0, 1) := by decide +kernel
theorem dX5_addGround_28 : decode cX5_addGround 28 = .ok (.getfield 33, 3) := by decide +kernel
theorem dX5_addGround_31 : decode cX5_addGround 31 = .ok (.aload_n 0, 1) := by decide +kernel
theorem dX5_addGround_32 : decode cX5_addGround 32 = .ok (.getfield 39, 3) := by decide +kernel
theorem dX5_addGround_35 : decode cX5_addGround 35 = .ok (.isub, 1) := by decide +kernel
theorem dX5_addGround_36 : decode cX5_addGround 36 = .ok (.aload_n 0, 1) := by decide +kernel
theorem dX5_addGround_37 : decode cX5_addGround 37 = .ok (.getfield 21, 3) := by decide +kernel
theorem dX5_addGround_40 : decode cX5_addGround 40 = .ok (.imul, 1) := by decide +kernel
theorem dX5_addGround_41 : decode cX5_addGround 41 = .ok (.bipush 100, 2) := by decide +kernel
theorem dX5_addGround_43 : decode cX5_addGround 43 = .ok (.idiv, 1) := by decide +kernel
theorem dX5_addGround_44 : decode cX5_addGround 44 = .ok (.putfield 42, 3) := by decide +kernel
theorem dX5_addGround_47 : decode cX5_addGround 47 = .ok (.aload_n 0, 1) := by decide +kernel
theorem dX5_addGround_48 : decode cX5_addGround 48 = .ok (.getfield 33, 3) := by decide +kernel
theorem dX5_addGround_51 : decode cX5_addGround 51 = .ok (.aload_n 0, 1) := by decide +kernel
theorem dX5_addGround_52 : decode cX5_addGround 52 = .ok (.getfield 27, 3) := by decide +kernel
theorem dX5_addGround_55 : decode cX5_addGround 55 = .ok (.if_icmp .lt 8, 3) := by decide +kernel
theorem dX5_addGround_58 : decode cX5_addGround 58 = .ok (.aload_n 0, 1) := by decide +kernel
theorem dX5_addGround_59 : decode cX5_addGround 59 = .ok (.iconst 2, 1) := by decide +kernel
theorem dX5_addGround_60 : decode cX5_addGround 60 = .ok (.putfield 30, 3) := by decide +kernel
theorem dX5_addGround_63 : decode cX5_addGround 63 = .ok (.return_, 1) := by decide +kernel
theorem dX5_endPledge_0 : decode cX5_endPledge 0 = .ok (.aload_n 0, 1) := by decide +kernel
theorem dX5_endPledge_1 : decode cX5_endPledge 1 = .ok (.iconst 0, 1) := by decide +kernel
theorem dX5_endPledge_2 : decode cX5_endPledge 2 = .ok (.putfield 45, 3) := by decide +kernel
theorem dX5_endPledge_5 : decode cX5_endPledge 5 = .ok (.aload_n 0, 1) := by decide +kernel
theorem dX5_endPledge_6 : decode cX5_endPledge 6 = .ok (.iconst 0, 1) := by decide +kernel
theorem dX5_endPledge_7 : decode cX5_endPledge 7 = .ok (.putfield 48, 3) := by decide +kernel
theorem dX5_endPledge_10 : decode cX5_endPledge 10 = .ok (.aload_n 0, 1) := by decide +kernel
theorem dX5_endPledge_11 : decode cX5_endPledge 11 = .ok (.iconst 0, 1) := by decide +kernel
theorem dX5_endPledge_12 : decode cX5_endPledge 12 = .ok (.putfield 51, 3) := by decide +kernel
theorem dX5_endPledge_15 : decode cX5_endPledge 15 = .ok (.aload_n 0, 1) := by decide +kernel
theorem dX5_endPledge_16 : decode cX5_endPledge 16 = .ok (.iconst 0, 1) := by decide +kernel
theorem dX5_endPledge_17 : decode cX5_endPledge 17 = .ok (.putfield 54, 3) := by decide +kernel
theorem dX5_endPledge_20 : decode cX5_endPledge 20 = .ok (.return_, 1) := by decide +kernel
theorem dX5_fall_0 : decode cX5_fall 0 = .ok (.aload_n 0, 1) := by decide +kernel
theorem dX5_fall_1 : decode cX5_fall 1 = .ok (.dup, 1) := by decide +kernel
theorem dX5_fall_2 : decode cX5_fall 2 = .ok (.getfield 57, 3) := by decide +kernel
theorem dX5_fall_5 : decode cX5_fall 5 = .ok (.aload_n 0, 1) := by decide +kernel
theorem dX5_fall_6 : decode cX5_fall 6 = .ok (.getfield 45, 3) := by decide +kernel
theorem dX5_fall_9 : decode cX5_fall 9 = .ok (.iadd, 1) := by decide +kernel
theorem dX5_fall_10 : decode cX5_fall 10 = .ok (.putfield 57, 3) := by decide +kernel
theorem dX5_fall_13 : decode cX5_fall 13 = .ok (.aload_n 0, 1) := by decide +kernel
theorem dX5_fall_14 : decode cX5_fall 14 = .ok (.invokevirtual 68, 3) := by decide +kernel
theorem dX5_fall_17 : decode cX5_fall 17 = .ok (.return_, 1) := by decide +kernel
theorem dX5_hasPledge_0 : decode cX5_hasPledge 0 = .ok (.aload_n 0, 1) := by decide +kernel
theorem dX5_hasPledge_1 : decode cX5_hasPledge 1 = .ok (.getfield 45, 3) := by decide +kernel
theorem dX5_hasPledge_4 : decode cX5_hasPledge 4 = .ok (.ifCond .le 7, 3) := by decide +kernel
theorem dX5_hasPledge_7 : decode cX5_hasPledge 7 = .ok (.iconst 1, 1) := by decide +kernel
theorem dX5_hasPledge_8 : decode cX5_hasPledge 8 = .ok (.goto 4, 3) := by decide +kernel
theorem dX5_hasPledge_11 : decode cX5_hasPledge 11 = .ok (.iconst 0, 1) := by decide +kernel
theorem dX5_hasPledge_12 : decode cX5_hasPledge 12 = .ok (.ireturn, 1) := by decide +kernel
theorem dX5_grain_0 : decode cX5_grain 0 = .ok (.aload_n 0, 1) := by decide +kernel
theorem dX5_grain_1 : decode cX5_grain 1 = .ok (.getfield 30, 3) := by decide +kernel
theorem dX5_grain_4 : decode cX5_grain 4 = .ok (.iconst 3, 1) := by decide +kernel
theorem dX5_grain_5 : decode cX5_grain 5 = .ok (.if_icmp .ne 7, 3) := by decide +kernel
theorem dX5_grain_8 : decode cX5_grain 8 = .ok (.iconst 0, 1) := by decide +kernel
theorem dX5_grain_9 : decode cX5_grain 9 = .ok (.goto 12, 3) := by decide +kernel
theorem dX5_grain_12 : decode cX5_grain 12 = .ok (.aload_n 0, 1) := by decide +kernel
theorem dX5_grain_13 : decode cX5_grain 13 = .ok (.getfield 27, 3) := by decide +kernel
theorem dX5_grain_16 : decode cX5_grain 16 = .ok (.aload_n 0, 1) := by decide +kernel
theorem dX5_grain_17 : decode cX5_grain 17 = .ok (.getfield 33, 3) := by decide +kernel
theorem dX5_grain_20 : decode cX5_grain 20 = .ok (.isub, 1) := by decide +kernel
theorem dX5_grain_21 : decode cX5_grain 21 = .ok (.ireturn, 1) := by decide +kernel
theorem dX5_flour_0 : decode cX5_flour 0 = .ok (.aload_n 0, 1) := by decide +kernel
theorem dX5_flour_1 : decode cX5_flour 1 = .ok (.getfield 30, 3) := by decide +kernel
theorem dX5_flour_4 : decode cX5_flour 4 = .ok (.iconst 3, 1) := by decide +kernel
theorem dX5_flour_5 : decode cX5_flour 5 = .ok (.if_icmp .ne 7, 3) := by decide +kernel
theorem dX5_flour_8 : decode cX5_flour 8 = .ok (.iconst 0, 1) := by decide +kernel
theorem dX5_flour_9 : decode cX5_flour 9 = .ok (.goto 27, 3) := by decide +kernel
theorem dX5_flour_12 : decode cX5_flour 12 = .ok (.aload_n 0, 1) := by decide +kernel
theorem dX5_flour_13 : decode cX5_flour 13 = .ok (.getfield 33, 3) := by decide +kernel
theorem dX5_flour_16 : decode cX5_flour 16 = .ok (.aload_n 0, 1) := by decide +kernel
theorem dX5_flour_17 : decode cX5_flour 17 = .ok (.getfield 39, 3) := by decide +kernel
theorem dX5_flour_20 : decode cX5_flour 20 = .ok (.isub, 1) := by decide +kernel
theorem dX5_flour_21 : decode cX5_flour 21 = .ok (.aload_n 0, 1) := by decide +kernel
theorem dX5_flour_22 : decode cX5_flour 22 = .ok (.getfield 42, 3) := by decide +kernel
theorem dX5_flour_25 : decode cX5_flour 25 = .ok (.isub, 1) := by decide +kernel
theorem dX5_flour_26 : decode cX5_flour 26 = .ok (.aload_n 0, 1) := by decide +kernel
theorem dX5_flour_27 : decode cX5_flour 27 = .ok (.getfield 45, 3) := by decide +kernel
theorem dX5_flour_30 : decode cX5_flour 30 = .ok (.isub, 1) := by decide +kernel
theorem dX5_flour_31 : decode cX5_flour 31 = .ok (.aload_n 0, 1) := by decide +kernel
theorem dX5_flour_32 : decode cX5_flour 32 = .ok (.getfield 57, 3) := by decide +kernel
theorem dX5_flour_35 : decode cX5_flour 35 = .ok (.isub, 1) := by decide +kernel
theorem dX5_flour_36 : decode cX5_flour 36 = .ok (.ireturn, 1) := by decide +kernel
theorem dX5_isOf_0 : decode cX5_isOf 0 = .ok (.iload_n 1, 1) := by decide +kernel
theorem dX5_isOf_1 : decode cX5_isOf 1 = .ok (.iconst (-1), 1) := by decide +kernel
theorem dX5_isOf_2 : decode cX5_isOf 2 = .ok (.if_icmp .eq 11, 3) := by decide +kernel
theorem dX5_isOf_5 : decode cX5_isOf 5 = .ok (.iload_n 1, 1) := by decide +kernel
theorem dX5_isOf_6 : decode cX5_isOf 6 = .ok (.aload_n 0, 1) := by decide +kernel
theorem dX5_isOf_7 : decode cX5_isOf 7 = .ok (.getfield 9, 3) := by decide +kernel
theorem dX5_isOf_10 : decode cX5_isOf 10 = .ok (.if_icmp .ne 20, 3) := by decide +kernel
theorem dX5_isOf_13 : decode cX5_isOf 13 = .ok (.iload_n 2, 1) := by decide +kernel
theorem dX5_isOf_14 : decode cX5_isOf 14 = .ok (.iconst (-1), 1) := by decide +kernel
theorem dX5_isOf_15 : decode cX5_isOf 15 = .ok (.if_icmp .eq 11, 3) := by decide +kernel
theorem dX5_isOf_18 : decode cX5_isOf 18 = .ok (.iload_n 2, 1) := by decide +kernel
theorem dX5_isOf_19 : decode cX5_isOf 19 = .ok (.aload_n 0, 1) := by decide +kernel
theorem dX5_isOf_20 : decode cX5_isOf 20 = .ok (.getfield 15, 3) := by decide +kernel
theorem dX5_isOf_23 : decode cX5_isOf 23 = .ok (.if_icmp .ne 7, 3) := by decide +kernel
theorem dX5_isOf_26 : decode cX5_isOf 26 = .ok (.iconst 1, 1) := by decide +kernel
theorem dX5_isOf_27 : decode cX5_isOf 27 = .ok (.goto 4, 3) := by decide +kernel
theorem dX5_isOf_30 : decode cX5_isOf 30 = .ok (.iconst 0, 1) := by decide +kernel
theorem dX5_isOf_31 : decode cX5_isOf 31 = .ok (.ireturn, 1) := by decide +kernel
theorem dX5_tell_0 : decode cX5_tell 0 = .ok (.iload_n 1, 1) := by decide +kernel
theorem dX5_tell_1 : decode cX5_tell 1 = .ok (.tableswitch 105 0 9 #[55, 60, 65, 70, 75, 80, 85, 90, 95, 100], 55) := by decide +kernel
theorem dX5_tell_56 : decode cX5_tell 56 = .ok (.aload_n 0, 1) := by decide +kernel
theorem dX5_tell_57 : decode cX5_tell 57 = .ok (.getfield 9, 3) := by decide +kernel
theorem dX5_tell_60 : decode cX5_tell 60 = .ok (.ireturn, 1) := by decide +kernel
theorem dX5_tell_61 : decode cX5_tell 61 = .ok (.aload_n 0, 1) := by decide +kernel
theorem dX5_tell_62 : decode cX5_tell 62 = .ok (.getfield 15, 3) := by decide +kernel
theorem dX5_tell_65 : decode cX5_tell 65 = .ok (.ireturn, 1) := by decide +kernel
theorem dX5_tell_66 : decode cX5_tell 66 = .ok (.aload_n 0, 1) := by decide +kernel
theorem dX5_tell_67 : decode cX5_tell 67 = .ok (.getfield 27, 3) := by decide +kernel
theorem dX5_tell_70 : decode cX5_tell 70 = .ok (.ireturn, 1) := by decide +kernel
theorem dX5_tell_71 : decode cX5_tell 71 = .ok (.aload_n 0, 1) := by decide +kernel
theorem dX5_tell_72 : decode cX5_tell 72 = .ok (.getfield 30, 3) := by decide +kernel
theorem dX5_tell_75 : decode cX5_tell 75 = .ok (.ireturn, 1) := by decide +kernel
theorem dX5_tell_76 : decode cX5_tell 76 = .ok (.aload_n 0, 1) := by decide +kernel
theorem dX5_tell_77 : decode cX5_tell 77 = .ok (.invokevirtual 71, 3) := by decide +kernel
theorem dX5_tell_80 : decode cX5_tell 80 = .ok (.ireturn, 1) := by decide +kernel
theorem dX5_tell_81 : decode cX5_tell 81 = .ok (.aload_n 0, 1) := by decide +kernel
theorem dX5_tell_82 : decode cX5_tell 82 = .ok (.invokevirtual 75, 3) := by decide +kernel
theorem dX5_tell_85 : decode cX5_tell 85 = .ok (.ireturn, 1) := by decide +kernel
theorem dX5_tell_86 : decode cX5_tell 86 = .ok (.aload_n 0, 1) := by decide +kernel
theorem dX5_tell_87 : decode cX5_tell 87 = .ok (.getfield 39, 3) := by decide +kernel
theorem dX5_tell_90 : decode cX5_tell 90 = .ok (.ireturn, 1) := by decide +kernel
theorem dX5_tell_91 : decode cX5_tell 91 = .ok (.aload_n 0, 1) := by decide +kernel
theorem dX5_tell_92 : decode cX5_tell 92 = .ok (.getfield 42, 3) := by decide +kernel
theorem dX5_tell_95 : decode cX5_tell 95 = .ok (.ireturn, 1) := by decide +kernel
theorem dX5_tell_96 : decode cX5_tell 96 = .ok (.aload_n 0, 1) := by decide +kernel
theorem dX5_tell_97 : decode cX5_tell 97 = .ok (.getfield 45, 3) := by decide +kernel
theorem dX5_tell_100 : decode cX5_tell 100 = .ok (.ireturn, 1) := by decide +kernel
theorem dX5_tell_101 : decode cX5_tell 101 = .ok (.aload_n 0, 1) := by decide +kernel
theorem dX5_tell_102 : decode cX5_tell 102 = .ok (.getfield 57, 3) := by decide +kernel
theorem dX5_tell_105 : decode cX5_tell 105 = .ok (.ireturn, 1) := by decide +kernel
theorem dX5_tell_106 : decode cX5_tell 106 = .ok (.aload_n 0, 1) := by decide +kernel
theorem dX5_tell_107 : decode cX5_tell 107 = .ok (.getfield 60, 3) := by decide +kernel
theorem dX5_tell_110 : decode cX5_tell 110 = .ok (.ireturn, 1) := by decide +kernel
theorem dX6_init_0 : decode cX6_init 0 = .ok (.aload_n 0, 1) := by decide +kernel
theorem dX6_init_1 : decode cX6_init 1 = .ok (.invokespecial 1, 3) := by decide +kernel
theorem dX6_init_4 : decode cX6_init 4 = .ok (.aload_n 0, 1) := by decide +kernel
theorem dX6_init_5 : decode cX6_init 5 = .ok (.new 7, 3) := by decide +kernel
theorem dX6_init_8 : decode cX6_init 8 = .ok (.dup, 1) := by decide +kernel
theorem dX6_init_9 : decode cX6_init 9 = .ok (.invokespecial 9, 3) := by decide +kernel
theorem dX6_init_12 : decode cX6_init 12 = .ok (.putfield 10, 3) := by decide +kernel
theorem dX6_init_15 : decode cX6_init 15 = .ok (.aload_n 0, 1) := by decide +kernel
theorem dX6_init_16 : decode cX6_init 16 = .ok (.new 7, 3) := by decide +kernel
theorem dX6_init_19 : decode cX6_init 19 = .ok (.dup, 1) := by decide +kernel
theorem dX6_init_20 : decode cX6_init 20 = .ok (.invokespecial 9, 3) := by decide +kernel
theorem dX6_init_23 : decode cX6_init 23 = .ok (.putfield 16, 3) := by decide +kernel
theorem dX6_init_26 : decode cX6_init 26 = .ok (.aload_n 0, 1) := by decide +kernel
theorem dX6_init_27 : decode cX6_init 27 = .ok (.new 19, 3) := by decide +kernel
theorem dX6_init_30 : decode cX6_init 30 = .ok (.dup, 1) := by decide +kernel
theorem dX6_init_31 : decode cX6_init 31 = .ok (.invokespecial 21, 3) := by decide +kernel
theorem dX6_init_34 : decode cX6_init 34 = .ok (.putfield 22, 3) := by decide +kernel
theorem dX6_init_37 : decode cX6_init 37 = .ok (.aload_n 0, 1) := by decide +kernel
theorem dX6_init_38 : decode cX6_init 38 = .ok (.new 26, 3) := by decide +kernel
theorem dX6_init_41 : decode cX6_init 41 = .ok (.dup, 1) := by decide +kernel
theorem dX6_init_42 : decode cX6_init 42 = .ok (.invokespecial 28, 3) := by decide +kernel
theorem dX6_init_45 : decode cX6_init 45 = .ok (.putfield 29, 3) := by decide +kernel
theorem dX6_init_48 : decode cX6_init 48 = .ok (.return_, 1) := by decide +kernel
theorem dX6_set_0 : decode cX6_set 0 = .ok (.aload_n 0, 1) := by decide +kernel
theorem dX6_set_1 : decode cX6_set 1 = .ok (.getfield 22, 3) := by decide +kernel
theorem dX6_set_4 : decode cX6_set 4 = .ok (.aload_n 0, 1) := by decide +kernel
theorem dX6_set_5 : decode cX6_set 5 = .ok (.getfield 10, 3) := by decide +kernel
theorem dX6_set_8 : decode cX6_set 8 = .ok (.invokevirtual 33, 3) := by decide +kernel
theorem dX6_set_11 : decode cX6_set 11 = .ok (.aload_n 0, 1) := by decide +kernel
theorem dX6_set_12 : decode cX6_set 12 = .ok (.getfield 22, 3) := by decide +kernel
theorem dX6_set_15 : decode cX6_set 15 = .ok (.aload_n 0, 1) := by decide +kernel
theorem dX6_set_16 : decode cX6_set 16 = .ok (.getfield 10, 3) := by decide +kernel
theorem dX6_set_19 : decode cX6_set 19 = .ok (.iload_n 1, 1) := by decide +kernel
theorem dX6_set_20 : decode cX6_set 20 = .ok (.iload_n 2, 1) := by decide +kernel
theorem dX6_set_21 : decode cX6_set 21 = .ok (.invokevirtual 37, 3) := by decide +kernel
theorem dX6_set_24 : decode cX6_set 24 = .ok (.invokevirtual 41, 3) := by decide +kernel
theorem dX6_set_27 : decode cX6_set 27 = .ok (.ireturn, 1) := by decide +kernel
theorem dX6_leak_0 : decode cX6_leak 0 = .ok (.aload_n 0, 1) := by decide +kernel
theorem dX6_leak_1 : decode cX6_leak 1 = .ok (.getfield 22, 3) := by decide +kernel
theorem dX6_leak_4 : decode cX6_leak 4 = .ok (.aload_n 0, 1) := by decide +kernel
theorem dX6_leak_5 : decode cX6_leak 5 = .ok (.getfield 10, 3) := by decide +kernel
theorem dX6_leak_8 : decode cX6_leak 8 = .ok (.invokevirtual 33, 3) := by decide +kernel
theorem dX6_leak_11 : decode cX6_leak 11 = .ok (.aload_n 0, 1) := by decide +kernel
theorem dX6_leak_12 : decode cX6_leak 12 = .ok (.getfield 22, 3) := by decide +kernel
theorem dX6_leak_15 : decode cX6_leak 15 = .ok (.aload_n 0, 1) := by decide +kernel
theorem dX6_leak_16 : decode cX6_leak 16 = .ok (.getfield 10, 3) := by decide +kernel
theorem dX6_leak_19 : decode cX6_leak 19 = .ok (.iload_n 1, 1) := by decide +kernel
theorem dX6_leak_20 : decode cX6_leak 20 = .ok (.iload_n 2, 1) := by decide +kernel
theorem dX6_leak_21 : decode cX6_leak 21 = .ok (.invokevirtual 45, 3) := by decide +kernel
theorem dX6_leak_24 : decode cX6_leak 24 = .ok (.invokevirtual 41, 3) := by decide +kernel
theorem dX6_leak_27 : decode cX6_leak 27 = .ok (.ireturn, 1) := by decide +kernel
theorem dX6_lock_0 : decode cX6_lock 0 = .ok (.aload_n 0, 1) := by decide +kernel
theorem dX6_lock_1 : decode cX6_lock 1 = .ok (.getfield 22, 3) := by decide +kernel
theorem dX6_lock_4 : decode cX6_lock 4 = .ok (.aload_n 0, 1) := by decide +kernel
theorem dX6_lock_5 : decode cX6_lock 5 = .ok (.getfield 10, 3) := by decide +kernel
theorem dX6_lock_8 : decode cX6_lock 8 = .ok (.invokevirtual 33, 3) := by decide +kernel
theorem dX6_lock_11 : decode cX6_lock 11 = .ok (.aload_n 0, 1) := by decide +kernel
theorem dX6_lock_12 : decode cX6_lock 12 = .ok (.getfield 22, 3) := by decide +kernel
theorem dX6_lock_15 : decode cX6_lock 15 = .ok (.aload_n 0, 1) := by decide +kernel
theorem dX6_lock_16 : decode cX6_lock 16 = .ok (.getfield 10, 3) := by decide +kernel
theorem dX6_lock_19 : decode cX6_lock 19 = .ok (.iload_n 1, 1) := by decide +kernel
theorem dX6_lock_20 : decode cX6_lock 20 = .ok (.invokevirtual 48, 3) := by decide +kernel
theorem dX6_lock_23 : decode cX6_lock 23 = .ok (.invokevirtual 41, 3) := by decide +kernel
theorem dX6_lock_26 : decode cX6_lock 26 = .ok (.ireturn, 1) := by decide +kernel
theorem dX6_gate_0 : decode cX6_gate 0 = .ok (.aload_n 0, 1) := by decide +kernel
theorem dX6_gate_1 : decode cX6_gate 1 = .ok (.getfield 22, 3) := by decide +kernel
theorem dX6_gate_4 : decode cX6_gate 4 = .ok (.aload_n 0, 1) := by decide +kernel
theorem dX6_gate_5 : decode cX6_gate 5 = .ok (.getfield 10, 3) := by decide +kernel
theorem dX6_gate_8 : decode cX6_gate 8 = .ok (.invokevirtual 33, 3) := by decide +kernel
theorem dX6_gate_11 : decode cX6_gate 11 = .ok (.aload_n 0, 1) := by decide +kernel
theorem dX6_gate_12 : decode cX6_gate 12 = .ok (.getfield 22, 3) := by decide +kernel
theorem dX6_gate_15 : decode cX6_gate 15 = .ok (.aload_n 0, 1) := by decide +kernel
theorem dX6_gate_16 : decode cX6_gate 16 = .ok (.getfield 10, 3) := by decide +kernel
theorem dX6_gate_19 : decode cX6_gate 19 = .ok (.iload_n 1, 1) := by decide +kernel
theorem dX6_gate_20 : decode cX6_gate 20 = .ok (.invokevirtual 51, 3) := by decide +kernel
theorem dX6_gate_23 : decode cX6_gate 23 = .ok (.invokevirtual 41, 3) := by decide +kernel
theorem dX6_gate_26 : decode cX6_gate 26 = .ok (.ireturn, 1) := by decide +kernel
theorem dX6_kind_0 : decode cX6_kind 0 = .ok (.aload_n 0, 1) := by decide +kernel
theorem dX6_kind_1 : decode cX6_kind 1 = .ok (.getfield 22, 3) := by decide +kernel
theorem dX6_kind_4 : decode cX6_kind 4 = .ok (.aload_n 0, 1) := by decide +kernel
theorem dX6_kind_5 : decode cX6_kind 5 = .ok (.getfield 10, 3) := by decide +kernel
theorem dX6_kind_8 : decode cX6_kind 8 = .ok (.invokevirtual 33, 3) := by decide +kernel
theorem dX6_kind_11 : decode cX6_kind 11 = .ok (.aload_n 0, 1) := by decide +kernel
theorem dX6_kind_12 : decode cX6_kind 12 = .ok (.getfield 22, 3) := by decide +kernel
theorem dX6_kind_15 : decode cX6_kind 15 = .ok (.aload_n 0, 1) := by decide +kernel
theorem dX6_kind_16 : decode cX6_kind 16 = .ok (.getfield 10, 3) := by decide +kernel
theorem dX6_kind_19 : decode cX6_kind 19 = .ok (.iload_n 1, 1) := by decide +kernel
theorem dX6_kind_20 : decode cX6_kind 20 = .ok (.iload_n 2, 1) := by decide +kernel
theorem dX6_kind_21 : decode cX6_kind 21 = .ok (.iload_n 3, 1) := by decide +kernel
theorem dX6_kind_22 : decode cX6_kind 22 = .ok (.invokevirtual 54, 3) := by decide +kernel
theorem dX6_kind_25 : decode cX6_kind 25 = .ok (.invokevirtual 41, 3) := by decide +kernel
theorem dX6_kind_28 : decode cX6_kind 28 = .ok (.ireturn, 1) := by decide +kernel
theorem dX6_farmer_0 : decode cX6_farmer 0 = .ok (.aload_n 0, 1) := by decide +kernel
theorem dX6_farmer_1 : decode cX6_farmer 1 = .ok (.getfield 22, 3) := by decide +kernel
theorem dX6_farmer_4 : decode cX6_farmer 4 = .ok (.aload_n 0, 1) := by decide +kernel
theorem dX6_farmer_5 : decode cX6_farmer 5 = .ok (.getfield 10, 3) := by decide +kernel
theorem dX6_farmer_8 : decode cX6_farmer 8 = .ok (.invokevirtual 33, 3) := by decide +kernel
theorem dX6_farmer_11 : decode cX6_farmer 11 = .ok (.aload_n 0, 1) := by decide +kernel
theorem dX6_farmer_12 : decode cX6_farmer 12 = .ok (.getfield 22, 3) := by decide +kernel
theorem dX6_farmer_15 : decode cX6_farmer 15 = .ok (.aload_n 0, 1) := by decide +kernel
theorem dX6_farmer_16 : decode cX6_farmer 16 = .ok (.getfield 10, 3) := by decide +kernel
theorem dX6_farmer_19 : decode cX6_farmer 19 = .ok (.invokevirtual 58, 3) := by decide +kernel
theorem dX6_farmer_22 : decode cX6_farmer 22 = .ok (.invokevirtual 41, 3) := by decide +kernel
theorem dX6_farmer_25 : decode cX6_farmer 25 = .ok (.ireturn, 1) := by decide +kernel
theorem dX6_bring_0 : decode cX6_bring 0 = .ok (.aload_n 0, 1) := by decide +kernel
theorem dX6_bring_1 : decode cX6_bring 1 = .ok (.getfield 22, 3) := by decide +kernel
theorem dX6_bring_4 : decode cX6_bring 4 = .ok (.aload_n 0, 1) := by decide +kernel
theorem dX6_bring_5 : decode cX6_bring 5 = .ok (.getfield 10, 3) := by decide +kernel
theorem dX6_bring_8 : decode cX6_bring 8 = .ok (.invokevirtual 33, 3) := by decide +kernel
theorem dX6_bring_11 : decode cX6_bring 11 = .ok (.aload_n 0, 1) := by decide +kernel
theorem dX6_bring_12 : decode cX6_bring 12 = .ok (.getfield 22, 3) := by decide +kernel
theorem dX6_bring_15 : decode cX6_bring 15 = .ok (.aload_n 0, 1) := by decide +kernel
theorem dX6_bring_16 : decode cX6_bring 16 = .ok (.getfield 10, 3) := by decide +kernel
theorem dX6_bring_19 : decode cX6_bring 19 = .ok (.iload_n 1, 1) := by decide +kernel
theorem dX6_bring_20 : decode cX6_bring 20 = .ok (.iload_n 2, 1) := by decide +kernel
theorem dX6_bring_21 : decode cX6_bring 21 = .ok (.iload_n 3, 1) := by decide +kernel
theorem dX6_bring_22 : decode cX6_bring 22 = .ok (.invokevirtual 62, 3) := by decide +kernel
theorem dX6_bring_25 : decode cX6_bring 25 = .ok (.invokevirtual 41, 3) := by decide +kernel
theorem dX6_bring_28 : decode cX6_bring 28 = .ok (.ireturn, 1) := by decide +kernel
theorem dX6_withdraw_0 : decode cX6_withdraw 0 = .ok (.aload_n 0, 1) := by decide +kernel
theorem dX6_withdraw_1 : decode cX6_withdraw 1 = .ok (.getfield 22, 3) := by decide +kernel
theorem dX6_withdraw_4 : decode cX6_withdraw 4 = .ok (.aload_n 0, 1) := by decide +kernel
theorem dX6_withdraw_5 : decode cX6_withdraw 5 = .ok (.getfield 10, 3) := by decide +kernel
theorem dX6_withdraw_8 : decode cX6_withdraw 8 = .ok (.invokevirtual 33, 3) := by decide +kernel
theorem dX6_withdraw_11 : decode cX6_withdraw 11 = .ok (.aload_n 0, 1) := by decide +kernel
theorem dX6_withdraw_12 : decode cX6_withdraw 12 = .ok (.getfield 22, 3) := by decide +kernel
theorem dX6_withdraw_15 : decode cX6_withdraw 15 = .ok (.aload_n 0, 1) := by decide +kernel
theorem dX6_withdraw_16 : decode cX6_withdraw 16 = .ok (.getfield 10, 3) := by decide +kernel
theorem dX6_withdraw_19 : decode cX6_withdraw 19 = .ok (.iload_n 1, 1) := by decide +kernel
theorem dX6_withdraw_20 : decode cX6_withdraw 20 = .ok (.invokevirtual 65, 3) := by decide +kernel
theorem dX6_withdraw_23 : decode cX6_withdraw 23 = .ok (.invokevirtual 41, 3) := by decide +kernel
theorem dX6_withdraw_26 : decode cX6_withdraw 26 = .ok (.ireturn, 1) := by decide +kernel
theorem dX6_fetch_0 : decode cX6_fetch 0 = .ok (.aload_n 0, 1) := by decide +kernel
theorem dX6_fetch_1 : decode cX6_fetch 1 = .ok (.getfield 22, 3) := by decide +kernel
theorem dX6_fetch_4 : decode cX6_fetch 4 = .ok (.aload_n 0, 1) := by decide +kernel
theorem dX6_fetch_5 : decode cX6_fetch 5 = .ok (.getfield 10, 3) := by decide +kernel
theorem dX6_fetch_8 : decode cX6_fetch 8 = .ok (.invokevirtual 33, 3) := by decide +kernel
theorem dX6_fetch_11 : decode cX6_fetch 11 = .ok (.aload_n 0, 1) := by decide +kernel
theorem dX6_fetch_12 : decode cX6_fetch 12 = .ok (.getfield 22, 3) := by decide +kernel
theorem dX6_fetch_15 : decode cX6_fetch 15 = .ok (.aload_n 0, 1) := by decide +kernel
theorem dX6_fetch_16 : decode cX6_fetch 16 = .ok (.getfield 10, 3) := by decide +kernel
theorem dX6_fetch_19 : decode cX6_fetch 19 = .ok (.iload_n 1, 1) := by decide +kernel
theorem dX6_fetch_20 : decode cX6_fetch 20 = .ok (.invokevirtual 68, 3) := by decide +kernel
theorem dX6_fetch_23 : decode cX6_fetch 23 = .ok (.invokevirtual 41, 3) := by decide +kernel
theorem dX6_fetch_26 : decode cX6_fetch 26 = .ok (.ireturn, 1) := by decide +kernel
theorem dX6_kindOf_0 : decode cX6_kindOf 0 = .ok (.aload_n 0, 1) := by decide +kernel
theorem dX6_kindOf_1 : decode cX6_kindOf 1 = .ok (.getfield 10, 3) := by decide +kernel
theorem dX6_kindOf_4 : decode cX6_kindOf 4 = .ok (.iload_n 1, 1) := by decide +kernel
theorem dX6_kindOf_5 : decode cX6_kindOf 5 = .ok (.invokevirtual 71, 3) := by decide +kernel
theorem dX6_kindOf_8 : decode cX6_kindOf 8 = .ok (.ifCond .eq 12, 3) := by decide +kernel
theorem dX6_kindOf_11 : decode cX6_kindOf 11 = .ok (.iload_n 2, 1) := by decide +kernel
theorem dX6_kindOf_12 : decode cX6_kindOf 12 = .ok (.iconst 0, 1) := by decide +kernel
theorem dX6_kindOf_13 : decode cX6_kindOf 13 = .ok (.iconst 5, 1) := by decide +kernel
theorem dX6_kindOf_14 : decode cX6_kindOf 14 = .ok (.invokestatic 75, 3) := by decide +kernel
theorem dX6_kindOf_17 : decode cX6_kindOf 17 = .ok (.ifCond .ne 6, 3) := by decide +kernel
theorem dX6_kindOf_20 : decode cX6_kindOf 20 = .ok (.ldc 79, 2) := by decide +kernel
theorem dX6_kindOf_22 : decode cX6_kindOf 22 = .ok (.ireturn, 1) := by decide +kernel
theorem dX6_kindOf_23 : decode cX6_kindOf 23 = .ok (.aload_n 0, 1) := by decide +kernel
theorem dX6_kindOf_24 : decode cX6_kindOf 24 = .ok (.getfield 10, 3) := by decide +kernel
theorem dX6_kindOf_27 : decode cX6_kindOf 27 = .ok (.iload_n 1, 1) := by decide +kernel
theorem dX6_kindOf_28 : decode cX6_kindOf 28 = .ok (.iload_n 2, 1) := by decide +kernel
theorem dX6_kindOf_29 : decode cX6_kindOf 29 = .ok (.invokevirtual 80, 3) := by decide +kernel
theorem dX6_kindOf_32 : decode cX6_kindOf 32 = .ok (.ireturn, 1) := by decide +kernel
theorem dX6_farmerOf_0 : decode cX6_farmerOf 0 = .ok (.aload_n 0, 1) := by decide +kernel
theorem dX6_farmerOf_1 : decode cX6_farmerOf 1 = .ok (.getfield 10, 3) := by decide +kernel
theorem dX6_farmerOf_4 : decode cX6_farmerOf 4 = .ok (.iload_n 1, 1) := by decide +kernel
theorem dX6_farmerOf_5 : decode cX6_farmerOf 5 = .ok (.invokevirtual 83, 3) := by decide +kernel
theorem dX6_farmerOf_8 : decode cX6_farmerOf 8 = .ok (.ifCond .eq 12, 3) := by decide +kernel
theorem dX6_farmerOf_11 : decode cX6_farmerOf 11 = .ok (.iload_n 2, 1) := by decide +kernel
theorem dX6_farmerOf_12 : decode cX6_farmerOf 12 = .ok (.iconst 0, 1) := by decide +kernel
theorem dX6_farmerOf_13 : decode cX6_farmerOf 13 = .ok (.iconst 5, 1) := by decide +kernel
theorem dX6_farmerOf_14 : decode cX6_farmerOf 14 = .ok (.invokestatic 75, 3) := by decide +kernel
theorem dX6_farmerOf_17 : decode cX6_farmerOf 17 = .ok (.ifCond .ne 6, 3) := by decide +kernel
theorem dX6_farmerOf_20 : decode cX6_farmerOf 20 = .ok (.ldc 79, 2) := by decide +kernel
theorem dX6_farmerOf_22 : decode cX6_farmerOf 22 = .ok (.ireturn, 1) := by decide +kernel
theorem dX6_farmerOf_23 : decode cX6_farmerOf 23 = .ok (.aload_n 0, 1) := by decide +kernel
theorem dX6_farmerOf_24 : decode cX6_farmerOf 24 = .ok (.getfield 10, 3) := by decide +kernel
theorem dX6_farmerOf_27 : decode cX6_farmerOf 27 = .ok (.iload_n 1, 1) := by decide +kernel
theorem dX6_farmerOf_28 : decode cX6_farmerOf 28 = .ok (.iload_n 2, 1) := by decide +kernel
theorem dX6_farmerOf_29 : decode cX6_farmerOf 29 = .ok (.invokevirtual 86, 3) := by decide +kernel
theorem dX6_farmerOf_32 : decode cX6_farmerOf 32 = .ok (.ireturn, 1) := by decide +kernel
theorem dX6_sackOf_0 : decode cX6_sackOf 0 = .ok (.aload_n 0, 1) := by decide +kernel
theorem dX6_sackOf_1 : decode cX6_sackOf 1 = .ok (.getfield 10, 3) := by decide +kernel
theorem dX6_sackOf_4 : decode cX6_sackOf 4 = .ok (.iload_n 1, 1) := by decide +kernel
theorem dX6_sackOf_5 : decode cX6_sackOf 5 = .ok (.invokevirtual 89, 3) := by decide +kernel
theorem dX6_sackOf_8 : decode cX6_sackOf 8 = .ok (.ifCond .eq 13, 3) := by decide +kernel
theorem dX6_sackOf_11 : decode cX6_sackOf 11 = .ok (.iload_n 2, 1) := by decide +kernel
theorem dX6_sackOf_12 : decode cX6_sackOf 12 = .ok (.iconst 0, 1) := by decide +kernel
theorem dX6_sackOf_13 : decode cX6_sackOf 13 = .ok (.bipush 11, 2) := by decide +kernel
theorem dX6_sackOf_15 : decode cX6_sackOf 15 = .ok (.invokestatic 75, 3) := by decide +kernel
theorem dX6_sackOf_18 : decode cX6_sackOf 18 = .ok (.ifCond .ne 6, 3) := by decide +kernel
theorem dX6_sackOf_21 : decode cX6_sackOf 21 = .ok (.ldc 79, 2) := by decide +kernel
theorem dX6_sackOf_23 : decode cX6_sackOf 23 = .ok (.ireturn, 1) := by decide +kernel
theorem dX6_sackOf_24 : decode cX6_sackOf 24 = .ok (.iload_n 2, 1) := by decide +kernel
theorem dX6_sackOf_25 : decode cX6_sackOf 25 = .ok (.bipush 11, 2) := by decide +kernel
theorem dX6_sackOf_27 : decode cX6_sackOf 27 = .ok (.if_icmp .ne 14, 3) := by decide +kernel
theorem dX6_sackOf_30 : decode cX6_sackOf 30 = .ok (.aload_n 0, 1) := by decide +kernel
theorem dX6_sackOf_31 : decode cX6_sackOf 31 = .ok (.getfield 10, 3) := by decide +kernel
theorem dX6_sackOf_34 : decode cX6_sackOf 34 = .ok (.iload_n 1, 1) := by decide +kernel
theorem dX6_sackOf_35 : decode cX6_sackOf 35 = .ok (.invokevirtual 92, 3) := by decide +kernel
theorem dX6_sackOf_38 : decode cX6_sackOf 38 = .ok (.goto 16, 3) := by decide +kernel
theorem dX6_sackOf_41 : decode cX6_sackOf 41 = .ok (.aload_n 0, 1) := by decide +kernel
theorem dX6_sackOf_42 : decode cX6_sackOf 42 = .ok (.getfield 10, 3) := by decide +kernel
theorem dX6_sackOf_45 : decode cX6_sackOf 45 = .ok (.getfield 95, 3) := by decide +kernel
theorem dX6_sackOf_48 : decode cX6_sackOf 48 = .ok (.iload_n 1, 1) := by decide +kernel
theorem dX6_sackOf_49 : decode cX6_sackOf 49 = .ok (.aaload, 1) := by decide +kernel
theorem dX6_sackOf_50 : decode cX6_sackOf 50 = .ok (.iload_n 2, 1) := by decide +kernel
theorem dX6_sackOf_51 : decode cX6_sackOf 51 = .ok (.invokevirtual 99, 3) := by decide +kernel
theorem dX6_sackOf_54 : decode cX6_sackOf 54 = .ok (.ireturn, 1) := by decide +kernel
theorem dX6_queueAt_0 : decode cX6_queueAt 0 = .ok (.iload_n 1, 1) := by decide +kernel
theorem dX6_queueAt_1 : decode cX6_queueAt 1 = .ok (.ifCond .ge 6, 3) := by decide +kernel
theorem dX6_queueAt_4 : decode cX6_queueAt 4 = .ok (.ldc 79, 2) := by decide +kernel
theorem dX6_queueAt_6 : decode cX6_queueAt 6 = .ok (.ireturn, 1) := by decide +kernel
theorem dX6_queueAt_7 : decode cX6_queueAt 7 = .ok (.aload_n 0, 1) := by decide +kernel
theorem dX6_queueAt_8 : decode cX6_queueAt 8 = .ok (.getfield 10, 3) := by decide +kernel
theorem dX6_queueAt_11 : decode cX6_queueAt 11 = .ok (.iload_n 1, 1) := by decide +kernel
theorem dX6_queueAt_12 : decode cX6_queueAt 12 = .ok (.invokevirtual 104, 3) := by decide +kernel
theorem dX6_queueAt_15 : decode cX6_queueAt 15 = .ok (.ireturn, 1) := by decide +kernel
theorem dX6_account_0 : decode cX6_account 0 = .ok (.iload_n 1, 1) := by decide +kernel
theorem dX6_account_1 : decode cX6_account 1 = .ok (.iconst (-1), 1) := by decide +kernel
theorem dX6_account_2 : decode cX6_account 2 = .ok (.if_icmp .eq 14, 3) := by decide +kernel
theorem dX6_account_5 : decode cX6_account 5 = .ok (.aload_n 0, 1) := by decide +kernel
theorem dX6_account_6 : decode cX6_account 6 = .ok (.getfield 10, 3) := by decide +kernel
theorem dX6_account_9 : decode cX6_account 9 = .ok (.iload_n 1, 1) := by decide +kernel
theorem dX6_account_10 : decode cX6_account 10 = .ok (.invokevirtual 83, 3) := by decide +kernel
theorem dX6_account_13 : decode cX6_account 13 = .ok (.ifCond .eq 23, 3) := by decide +kernel
theorem dX6_account_16 : decode cX6_account 16 = .ok (.iload_n 2, 1) := by decide +kernel
theorem dX6_account_17 : decode cX6_account 17 = .ok (.iconst (-1), 1) := by decide +kernel
theorem dX6_account_18 : decode cX6_account 18 = .ok (.if_icmp .eq 14, 3) := by decide +kernel
theorem dX6_account_21 : decode cX6_account 21 = .ok (.aload_n 0, 1) := by decide +kernel
theorem dX6_account_22 : decode cX6_account 22 = .ok (.getfield 10, 3) := by decide +kernel
theorem dX6_account_25 : decode cX6_account 25 = .ok (.iload_n 2, 1) := by decide +kernel
theorem dX6_account_26 : decode cX6_account 26 = .ok (.invokevirtual 71, 3) := by decide +kernel
theorem dX6_account_29 : decode cX6_account 29 = .ok (.ifCond .eq 7, 3) := by decide +kernel
theorem dX6_account_32 : decode cX6_account 32 = .ok (.iconst 1, 1) := by decide +kernel
theorem dX6_account_33 : decode cX6_account 33 = .ok (.goto 4, 3) := by decide +kernel
theorem dX6_account_36 : decode cX6_account 36 = .ok (.iconst 0, 1) := by decide +kernel
theorem dX6_account_37 : decode cX6_account 37 = .ok (.istore 4, 2) := by decide +kernel
theorem dX6_account_39 : decode cX6_account 39 = .ok (.iload 4, 2) := by decide +kernel
theorem dX6_account_41 : decode cX6_account 41 = .ok (.ifCond .eq 18, 3) := by decide +kernel
theorem dX6_account_44 : decode cX6_account 44 = .ok (.iload_n 3, 1) := by decide +kernel
theorem dX6_account_45 : decode cX6_account 45 = .ok (.iconst 2, 1) := by decide +kernel
theorem dX6_account_46 : decode cX6_account 46 = .ok (.if_icmp .eq 16, 3) := by decide +kernel
theorem dX6_account_49 : decode cX6_account 49 = .ok (.iload_n 3, 1) := by decide +kernel
theorem dX6_account_50 : decode cX6_account 50 = .ok (.iconst 4, 1) := by decide +kernel
theorem dX6_account_51 : decode cX6_account 51 = .ok (.bipush 10, 2) := by decide +kernel
theorem dX6_account_53 : decode cX6_account 53 = .ok (.invokestatic 75, 3) := by decide +kernel
theorem dX6_account_56 : decode cX6_account 56 = .ok (.ifCond .ne 6, 3) := by decide +kernel
theorem dX6_account_59 : decode cX6_account 59 = .ok (.ldc 79, 2) := by decide +kernel
theorem dX6_account_61 : decode cX6_account 61 = .ok (.ireturn, 1) := by decide +kernel
theorem dX6_account_62 : decode cX6_account 62 = .ok (.aload_n 0, 1) := by decide +kernel
theorem dX6_account_63 : decode cX6_account 63 = .ok (.getfield 10, 3) := by decide +kernel
theorem dX6_account_66 : decode cX6_account 66 = .ok (.iload_n 1, 1) := by decide +kernel
theorem dX6_account_67 : decode cX6_account 67 = .ok (.iload_n 2, 1) := by decide +kernel
theorem dX6_account_68 : decode cX6_account 68 = .ok (.iload_n 3, 1) := by decide +kernel
theorem dX6_account_69 : decode cX6_account 69 = .ok (.invokevirtual 107, 3) := by decide +kernel
theorem dX6_account_72 : decode cX6_account 72 = .ok (.ireturn, 1) := by decide +kernel
theorem dX6_earn_0 : decode cX6_earn 0 = .ok (.aload_n 0, 1) := by decide +kernel
theorem dX6_earn_1 : decode cX6_earn 1 = .ok (.getfield 22, 3) := by decide +kernel
theorem dX6_earn_4 : decode cX6_earn 4 = .ok (.aload_n 0, 1) := by decide +kernel
theorem dX6_earn_5 : decode cX6_earn 5 = .ok (.getfield 10, 3) := by decide +kernel
theorem dX6_earn_8 : decode cX6_earn 8 = .ok (.invokevirtual 33, 3) := by decide +kernel
theorem dX6_earn_11 : decode cX6_earn 11 = .ok (.aload_n 0, 1) := by decide +kernel
theorem dX6_earn_12 : decode cX6_earn 12 = .ok (.getfield 22, 3) := by decide +kernel
theorem dX6_earn_15 : decode cX6_earn 15 = .ok (.aload_n 0, 1) := by decide +kernel
theorem dX6_earn_16 : decode cX6_earn 16 = .ok (.getfield 10, 3) := by decide +kernel
theorem dX6_earn_19 : decode cX6_earn 19 = .ok (.iload_n 1, 1) := by decide +kernel
theorem dX6_earn_20 : decode cX6_earn 20 = .ok (.iload_n 2, 1) := by decide +kernel
theorem dX6_earn_21 : decode cX6_earn 21 = .ok (.invokevirtual 110, 3) := by decide +kernel
theorem dX6_earn_24 : decode cX6_earn 24 = .ok (.invokevirtual 41, 3) := by decide +kernel
theorem dX6_earn_27 : decode cX6_earn 27 = .ok (.ireturn, 1) := by decide +kernel
theorem dX6_pledge_0 : decode cX6_pledge 0 = .ok (.aload_n 0, 1) := by decide +kernel
theorem dX6_pledge_1 : decode cX6_pledge 1 = .ok (.getfield 22, 3) := by decide +kernel
theorem dX6_pledge_4 : decode cX6_pledge 4 = .ok (.aload_n 0, 1) := by decide +kernel
theorem dX6_pledge_5 : decode cX6_pledge 5 = .ok (.getfield 10, 3) := by decide +kernel
theorem dX6_pledge_8 : decode cX6_pledge 8 = .ok (.invokevirtual 33, 3) := by decide +kernel
theorem dX6_pledge_11 : decode cX6_pledge 11 = .ok (.aload_n 0, 1) := by decide +kernel
theorem dX6_pledge_12 : decode cX6_pledge 12 = .ok (.getfield 22, 3) := by decide +kernel
theorem dX6_pledge_15 : decode cX6_pledge 15 = .ok (.aload_n 0, 1) := by decide +kernel
theorem dX6_pledge_16 : decode cX6_pledge 16 = .ok (.getfield 10, 3) := by decide +kernel
theorem dX6_pledge_19 : decode cX6_pledge 19 = .ok (.iload_n 1, 1) := by decide +kernel
theorem dX6_pledge_20 : decode cX6_pledge 20 = .ok (.iload_n 2, 1) := by decide +kernel
theorem dX6_pledge_21 : decode cX6_pledge 21 = .ok (.invokevirtual 113, 3) := by decide +kernel
theorem dX6_pledge_24 : decode cX6_pledge 24 = .ok (.invokevirtual 41, 3) := by decide +kernel
theorem dX6_pledge_27 : decode cX6_pledge 27 = .ok (.ireturn, 1) := by decide +kernel
theorem dX6_owed_0 : decode cX6_owed 0 = .ok (.aload_n 0, 1) := by decide +kernel
theorem dX6_owed_1 : decode cX6_owed 1 = .ok (.getfield 10, 3) := by decide +kernel
theorem dX6_owed_4 : decode cX6_owed 4 = .ok (.iload_n 1, 1) := by decide +kernel
theorem dX6_owed_5 : decode cX6_owed 5 = .ok (.invokevirtual 89, 3) := by decide +kernel
theorem dX6_owed_8 : decode cX6_owed 8 = .ok (.ifCond .ne 6, 3) := by decide +kernel
theorem dX6_owed_11 : decode cX6_owed 11 = .ok (.ldc 79, 2) := by decide +kernel
theorem dX6_owed_13 : decode cX6_owed 13 = .ok (.ireturn, 1) := by decide +kernel
theorem dX6_owed_14 : decode cX6_owed 14 = .ok (.aload_n 0, 1) := by decide +kernel
theorem dX6_owed_15 : decode cX6_owed 15 = .ok (.getfield 10, 3) := by decide +kernel
theorem dX6_owed_18 : decode cX6_owed 18 = .ok (.getfield 95, 3) := by decide +kernel
theorem dX6_owed_21 : decode cX6_owed 21 = .ok (.iload_n 1, 1) := by decide +kernel
theorem dX6_owed_22 : decode cX6_owed 22 = .ok (.aaload, 1) := by decide +kernel
theorem dX6_owed_23 : decode cX6_owed 23 = .ok (.invokevirtual 116, 3) := by decide +kernel
theorem dX6_owed_26 : decode cX6_owed 26 = .ok (.ifCond .eq 22, 3) := by decide +kernel
theorem dX6_owed_29 : decode cX6_owed 29 = .ok (.aload_n 0, 1) := by decide +kernel
theorem dX6_owed_30 : decode cX6_owed 30 = .ok (.getfield 10, 3) := by decide +kernel
theorem dX6_owed_33 : decode cX6_owed 33 = .ok (.aload_n 0, 1) := by decide +kernel
theorem dX6_owed_34 : decode cX6_owed 34 = .ok (.getfield 10, 3) := by decide +kernel
theorem dX6_owed_37 : decode cX6_owed 37 = .ok (.getfield 95, 3) := by decide +kernel
theorem dX6_owed_40 : decode cX6_owed 40 = .ok (.iload_n 1, 1) := by decide +kernel
theorem dX6_owed_41 : decode cX6_owed 41 = .ok (.aaload, 1) := by decide +kernel
theorem dX6_owed_42 : decode cX6_owed 42 = .ok (.invokevirtual 120, 3) := by decide +kernel
theorem dX6_owed_45 : decode cX6_owed 45 = .ok (.goto 5, 3) := by decide +kernel
theorem dX6_owed_48 : decode cX6_owed 48 = .ok (.ldc 124, 2) := by decide +kernel
theorem dX6_owed_50 : decode cX6_owed 50 = .ok (.ireturn, 1) := by decide +kernel
theorem dX6_redeem_0 : decode cX6_redeem 0 = .ok (.aload_n 0, 1) := by decide +kernel
theorem dX6_redeem_1 : decode cX6_redeem 1 = .ok (.getfield 22, 3) := by decide +kernel
theorem dX6_redeem_4 : decode cX6_redeem 4 = .ok (.aload_n 0, 1) := by decide +kernel
theorem dX6_redeem_5 : decode cX6_redeem 5 = .ok (.getfield 10, 3) := by decide +kernel
theorem dX6_redeem_8 : decode cX6_redeem 8 = .ok (.invokevirtual 33, 3) := by decide +kernel
theorem dX6_redeem_11 : decode cX6_redeem 11 = .ok (.aload_n 0, 1) := by decide +kernel
theorem dX6_redeem_12 : decode cX6_redeem 12 = .ok (.getfield 22, 3) := by decide +kernel
theorem dX6_redeem_15 : decode cX6_redeem 15 = .ok (.aload_n 0, 1) := by decide +kernel
theorem dX6_redeem_16 : decode cX6_redeem 16 = .ok (.getfield 10, 3) := by decide +kernel
theorem dX6_redeem_19 : decode cX6_redeem 19 = .ok (.iload_n 1, 1) := by decide +kernel
theorem dX6_redeem_20 : decode cX6_redeem 20 = .ok (.invokevirtual 125, 3) := by decide +kernel
theorem dX6_redeem_23 : decode cX6_redeem 23 = .ok (.invokevirtual 41, 3) := by decide +kernel
theorem dX6_redeem_26 : decode cX6_redeem 26 = .ok (.ireturn, 1) := by decide +kernel
theorem dX6_pledgeAt_0 : decode cX6_pledgeAt 0 = .ok (.iload_n 1, 1) := by decide +kernel
theorem dX6_pledgeAt_1 : decode cX6_pledgeAt 1 = .ok (.ifCond .lt 12, 3) := by decide +kernel
theorem dX6_pledgeAt_4 : decode cX6_pledgeAt 4 = .ok (.iload_n 2, 1) := by decide +kernel
theorem dX6_pledgeAt_5 : decode cX6_pledgeAt 5 = .ok (.iconst 0, 1) := by decide +kernel
theorem dX6_pledgeAt_6 : decode cX6_pledgeAt 6 = .ok (.iconst 4, 1) := by decide +kernel
theorem dX6_pledgeAt_7 : decode cX6_pledgeAt 7 = .ok (.invokestatic 75, 3) := by decide +kernel
theorem dX6_pledgeAt_10 : decode cX6_pledgeAt 10 = .ok (.ifCond .ne 6, 3) := by decide +kernel
theorem dX6_pledgeAt_13 : decode cX6_pledgeAt 13 = .ok (.ldc 79, 2) := by decide +kernel
theorem dX6_pledgeAt_15 : decode cX6_pledgeAt 15 = .ok (.ireturn, 1) := by decide +kernel
theorem dX6_pledgeAt_16 : decode cX6_pledgeAt 16 = .ok (.aload_n 0, 1) := by decide +kernel
theorem dX6_pledgeAt_17 : decode cX6_pledgeAt 17 = .ok (.getfield 10, 3) := by decide +kernel
theorem dX6_pledgeAt_20 : decode cX6_pledgeAt 20 = .ok (.iload_n 1, 1) := by decide +kernel
theorem dX6_pledgeAt_21 : decode cX6_pledgeAt 21 = .ok (.invokevirtual 128, 3) := by decide +kernel
theorem dX6_pledgeAt_24 : decode cX6_pledgeAt 24 = .ok (.istore_n 3, 1) := by decide +kernel
theorem dX6_pledgeAt_25 : decode cX6_pledgeAt 25 = .ok (.iload_n 3, 1) := by decide +kernel
theorem dX6_pledgeAt_26 : decode cX6_pledgeAt 26 = .ok (.iconst (-1), 1) := by decide +kernel
theorem dX6_pledgeAt_27 : decode cX6_pledgeAt 27 = .ok (.if_icmp .ne 8, 3) := by decide +kernel
theorem dX6_pledgeAt_30 : decode cX6_pledgeAt 30 = .ok (.ldc 124, 2) := by decide +kernel
theorem dX6_pledgeAt_32 : decode cX6_pledgeAt 32 = .ok (.goto 12, 3) := by decide +kernel
theorem dX6_pledgeAt_35 : decode cX6_pledgeAt 35 = .ok (.aload_n 0, 1) := by decide +kernel
theorem dX6_pledgeAt_36 : decode cX6_pledgeAt 36 = .ok (.getfield 10, 3) := by decide +kernel
theorem dX6_pledgeAt_39 : decode cX6_pledgeAt 39 = .ok (.iload_n 3, 1) := by decide +kernel
theorem dX6_pledgeAt_40 : decode cX6_pledgeAt 40 = .ok (.iload_n 2, 1) := by decide +kernel
theorem dX6_pledgeAt_41 : decode cX6_pledgeAt 41 = .ok (.invokevirtual 131, 3) := by decide +kernel
theorem dX6_pledgeAt_44 : decode cX6_pledgeAt 44 = .ok (.ireturn, 1) := by decide +kernel
theorem dX6_pass_0 : decode cX6_pass 0 = .ok (.aload_n 0, 1) := by decide +kernel
theorem dX6_pass_1 : decode cX6_pass 1 = .ok (.getfield 22, 3) := by decide +kernel
theorem dX6_pass_4 : decode cX6_pass 4 = .ok (.aload_n 0, 1) := by decide +kernel
theorem dX6_pass_5 : decode cX6_pass 5 = .ok (.getfield 10, 3) := by decide +kernel
theorem dX6_pass_8 : decode cX6_pass 8 = .ok (.invokevirtual 33, 3) := by decide +kernel
theorem dX6_pass_11 : decode cX6_pass 11 = .ok (.aload_n 0, 1) := by decide +kernel
theorem dX6_pass_12 : decode cX6_pass 12 = .ok (.getfield 22, 3) := by decide +kernel
theorem dX6_pass_15 : decode cX6_pass 15 = .ok (.aload_n 0, 1) := by decide +kernel
theorem dX6_pass_16 : decode cX6_pass 16 = .ok (.getfield 10, 3) := by decide +kernel
theorem dX6_pass_19 : decode cX6_pass 19 = .ok (.iload_n 1, 1) := by decide +kernel
theorem dX6_pass_20 : decode cX6_pass 20 = .ok (.invokevirtual 134, 3) := by decide +kernel
theorem dX6_pass_23 : decode cX6_pass 23 = .ok (.invokevirtual 41, 3) := by decide +kernel
theorem dX6_pass_26 : decode cX6_pass 26 = .ok (.ireturn, 1) := by decide +kernel
theorem dX6_seaIn_0 : decode cX6_seaIn 0 = .ok (.iload_n 1, 1) := by decide +kernel
theorem dX6_seaIn_1 : decode cX6_seaIn 1 = .ok (.iconst 0, 1) := by decide +kernel
theorem dX6_seaIn_2 : decode cX6_seaIn 2 = .ok (.sipush 5000, 3) := by decide +kernel
theorem dX6_seaIn_5 : decode cX6_seaIn 5 = .ok (.invokestatic 75, 3) := by decide +kernel
theorem dX6_seaIn_8 : decode cX6_seaIn 8 = .ok (.ifCond .ne 6, 3) := by decide +kernel
theorem dX6_seaIn_11 : decode cX6_seaIn 11 = .ok (.ldc 79, 2) := by decide +kernel
theorem dX6_seaIn_13 : decode cX6_seaIn 13 = .ok (.ireturn, 1) := by decide +kernel
theorem dX6_seaIn_14 : decode cX6_seaIn 14 = .ok (.aload_n 0, 1) := by decide +kernel
theorem dX6_seaIn_15 : decode cX6_seaIn 15 = .ok (.getfield 10, 3) := by decide +kernel
theorem dX6_seaIn_18 : decode cX6_seaIn 18 = .ok (.aload_n 0, 1) := by decide +kernel
theorem dX6_seaIn_19 : decode cX6_seaIn 19 = .ok (.getfield 10, 3) := by decide +kernel
theorem dX6_seaIn_22 : decode cX6_seaIn 22 = .ok (.getfield 137, 3) := by decide +kernel
theorem dX6_seaIn_25 : decode cX6_seaIn 25 = .ok (.iload_n 1, 1) := by decide +kernel
theorem dX6_seaIn_26 : decode cX6_seaIn 26 = .ok (.iadd, 1) := by decide +kernel
theorem dX6_seaIn_27 : decode cX6_seaIn 27 = .ok (.invokevirtual 141, 3) := by decide +kernel
theorem dX6_seaIn_30 : decode cX6_seaIn 30 = .ok (.ireturn, 1) := by decide +kernel
theorem dX6_nextHigh_0 : decode cX6_nextHigh 0 = .ok (.aload_n 0, 1) := by decide +kernel
theorem dX6_nextHigh_1 : decode cX6_nextHigh 1 = .ok (.getfield 10, 3) := by decide +kernel
theorem dX6_nextHigh_4 : decode cX6_nextHigh 4 = .ok (.invokevirtual 144, 3) := by decide +kernel
theorem dX6_nextHigh_7 : decode cX6_nextHigh 7 = .ok (.ireturn, 1) := by decide +kernel
theorem dX6_pond_0 : decode cX6_pond 0 = .ok (.iload_n 1, 1) := by decide +kernel
theorem dX6_pond_1 : decode cX6_pond 1 = .ok (.iconst 0, 1) := by decide +kernel
theorem dX6_pond_2 : decode cX6_pond 2 = .ok (.bipush 14, 2) := by decide +kernel
theorem dX6_pond_4 : decode cX6_pond 4 = .ok (.invokestatic 75, 3) := by decide +kernel
theorem dX6_pond_7 : decode cX6_pond 7 = .ok (.ifCond .ne 6, 3) := by decide +kernel
theorem dX6_pond_10 : decode cX6_pond 10 = .ok (.ldc 79, 2) := by decide +kernel
theorem dX6_pond_12 : decode cX6_pond 12 = .ok (.ireturn, 1) := by decide +kernel
theorem dX6_pond_13 : decode cX6_pond 13 = .ok (.aload_n 0, 1) := by decide +kernel
theorem dX6_pond_14 : decode cX6_pond 14 = .ok (.getfield 10, 3) := by decide +kernel
theorem dX6_pond_17 : decode cX6_pond 17 = .ok (.iload_n 1, 1) := by decide +kernel
theorem dX6_pond_18 : decode cX6_pond 18 = .ok (.invokevirtual 147, 3) := by decide +kernel
theorem dX6_pond_21 : decode cX6_pond 21 = .ok (.ireturn, 1) := by decide +kernel
theorem dX6_foresee_0 : decode cX6_foresee 0 = .ok (.aload_n 0, 1) := by decide +kernel
theorem dX6_foresee_1 : decode cX6_foresee 1 = .ok (.getfield 10, 3) := by decide +kernel
theorem dX6_foresee_4 : decode cX6_foresee 4 = .ok (.iload_n 1, 1) := by decide +kernel
theorem dX6_foresee_5 : decode cX6_foresee 5 = .ok (.invokevirtual 89, 3) := by decide +kernel
theorem dX6_foresee_8 : decode cX6_foresee 8 = .ok (.ifCond .ne 6, 3) := by decide +kernel
theorem dX6_foresee_11 : decode cX6_foresee 11 = .ok (.ldc 79, 2) := by decide +kernel
theorem dX6_foresee_13 : decode cX6_foresee 13 = .ok (.ireturn, 1) := by decide +kernel
theorem dX6_foresee_14 : decode cX6_foresee 14 = .ok (.aload_n 0, 1) := by decide +kernel
theorem dX6_foresee_15 : decode cX6_foresee 15 = .ok (.getfield 10, 3) := by decide +kernel
theorem dX6_foresee_18 : decode cX6_foresee 18 = .ok (.getfield 95, 3) := by decide +kernel
theorem dX6_foresee_21 : decode cX6_foresee 21 = .ok (.iload_n 1, 1) := by decide +kernel
theorem dX6_foresee_22 : decode cX6_foresee 22 = .ok (.aaload, 1) := by decide +kernel
theorem dX6_foresee_23 : decode cX6_foresee 23 = .ok (.getfield 150, 3) := by decide +kernel
theorem dX6_foresee_26 : decode cX6_foresee 26 = .ok (.iconst 2, 1) := by decide +kernel
theorem dX6_foresee_27 : decode cX6_foresee 27 = .ok (.if_icmp .lt 6, 3) := by decide +kernel
theorem dX6_foresee_30 : decode cX6_foresee 30 = .ok (.ldc 153, 2) := by decide +kernel
theorem dX6_foresee_32 : decode cX6_foresee 32 = .ok (.ireturn, 1) := by decide +kernel
theorem dX6_foresee_33 : decode cX6_foresee 33 = .ok (.aload_n 0, 1) := by decide +kernel
theorem dX6_foresee_34 : decode cX6_foresee 34 = .ok (.getfield 16, 3) := by decide +kernel
theorem dX6_foresee_37 : decode cX6_foresee 37 = .ok (.aload_n 0, 1) := by decide +kernel
theorem dX6_foresee_38 : decode cX6_foresee 38 = .ok (.getfield 10, 3) := by decide +kernel
theorem dX6_foresee_41 : decode cX6_foresee 41 = .ok (.invokevirtual 154, 3) := by decide +kernel
theorem dX6_foresee_44 : decode cX6_foresee 44 = .ok (.iconst 1, 1) := by decide +kernel
theorem dX6_foresee_45 : decode cX6_foresee 45 = .ok (.istore_n 2, 1) := by decide +kernel
theorem dX6_foresee_46 : decode cX6_foresee 46 = .ok (.iload_n 2, 1) := by decide +kernel
theorem dX6_foresee_47 : decode cX6_foresee 47 = .ok (.sipush 1000, 3) := by decide +kernel
theorem dX6_foresee_50 : decode cX6_foresee 50 = .ok (.if_icmp .gt 34, 3) := by decide +kernel
theorem dX6_foresee_53 : decode cX6_foresee 53 = .ok (.aload_n 0, 1) := by decide +kernel
theorem dX6_foresee_54 : decode cX6_foresee 54 = .ok (.getfield 16, 3) := by decide +kernel
theorem dX6_foresee_57 : decode cX6_foresee 57 = .ok (.invokevirtual 157, 3) := by decide +kernel
theorem dX6_foresee_60 : decode cX6_foresee 60 = .ok (.aload_n 0, 1) := by decide +kernel
theorem dX6_foresee_61 : decode cX6_foresee 61 = .ok (.getfield 16, 3) := by decide +kernel
theorem dX6_foresee_64 : decode cX6_foresee 64 = .ok (.getfield 95, 3) := by decide +kernel
theorem dX6_foresee_67 : decode cX6_foresee 67 = .ok (.iload_n 1, 1) := by decide +kernel
theorem dX6_foresee_68 : decode cX6_foresee 68 = .ok (.aaload, 1) := by decide +kernel
theorem dX6_foresee_69 : decode cX6_foresee 69 = .ok (.getfield 150, 3) := by decide +kernel
theorem dX6_foresee_72 : decode cX6_foresee 72 = .ok (.iconst 2, 1) := by decide +kernel
theorem dX6_foresee_73 : decode cX6_foresee 73 = .ok (.if_icmp .ne 5, 3) := by decide +kernel
theorem dX6_foresee_76 : decode cX6_foresee 76 = .ok (.iload_n 2, 1) := by decide +kernel
theorem dX6_foresee_77 : decode cX6_foresee 77 = .ok (.ireturn, 1) := by decide +kernel
theorem dX6_foresee_78 : decode cX6_foresee 78 = .ok (.iinc 2 1, 3) := by decide +kernel
theorem dX6_foresee_81 : decode cX6_foresee 81 = .ok (.goto (-35), 3) := by decide +kernel
theorem dX6_foresee_84 : decode cX6_foresee 84 = .ok (.ldc 124, 2) := by decide +kernel
theorem dX6_foresee_86 : decode cX6_foresee 86 = .ok (.ireturn, 1) := by decide +kernel
theorem dX6_bestGate_0 : decode cX6_bestGate 0 = .ok (.iload_n 1, 1) := by decide +kernel
theorem dX6_bestGate_1 : decode cX6_bestGate 1 = .ok (.iconst 1, 1) := by decide +kernel
theorem dX6_bestGate_2 : decode cX6_bestGate 2 = .ok (.sipush 200, 3) := by decide +kernel
theorem dX6_bestGate_5 : decode cX6_bestGate 5 = .ok (.invokestatic 75, 3) := by decide +kernel
theorem dX6_bestGate_8 : decode cX6_bestGate 8 = .ok (.ifCond .ne 6, 3) := by decide +kernel
theorem dX6_bestGate_11 : decode cX6_bestGate 11 = .ok (.ldc 79, 2) := by decide +kernel
theorem dX6_bestGate_13 : decode cX6_bestGate 13 = .ok (.ireturn, 1) := by decide +kernel
theorem dX6_bestGate_14 : decode cX6_bestGate 14 = .ok (.iconst 0, 1) := by decide +kernel
theorem dX6_bestGate_15 : decode cX6_bestGate 15 = .ok (.istore_n 2, 1) := by decide +kernel
theorem dX6_bestGate_16 : decode cX6_bestGate 16 = .ok (.iconst (-1), 1) := by decide +kernel
theorem dX6_bestGate_17 : decode cX6_bestGate 17 = .ok (.istore_n 3, 1) := by decide +kernel
theorem dX6_bestGate_18 : decode cX6_bestGate 18 = .ok (.iconst 0, 1) := by decide +kernel
theorem dX6_bestGate_19 : decode cX6_bestGate 19 = .ok (.istore 4, 2) := by decide +kernel
theorem dX6_bestGate_21 : decode cX6_bestGate 21 = .ok (.iload 4, 2) := by decide +kernel
theorem dX6_bestGate_23 : decode cX6_bestGate 23 = .ok (.iconst 4, 1) := by decide +kernel
theorem dX6_bestGate_24 : decode cX6_bestGate 24 = .ok (.if_icmp .ge 30, 3) := by decide +kernel
theorem dX6_bestGate_27 : decode cX6_bestGate 27 = .ok (.aload_n 0, 1) := by decide +kernel
theorem dX6_bestGate_28 : decode cX6_bestGate 28 = .ok (.iload 4, 2) := by decide +kernel
theorem dX6_bestGate_30 : decode cX6_bestGate 30 = .ok (.iload_n 1, 1) := by decide +kernel
theorem dX6_bestGate_31 : decode cX6_bestGate 31 = .ok (.invokevirtual 160, 3) := by decide +kernel
theorem dX6_bestGate_34 : decode cX6_bestGate 34 = .ok (.istore 5, 2) := by decide +kernel
theorem dX6_bestGate_36 : decode cX6_bestGate 36 = .ok (.iload 5, 2) := by decide +kernel
theorem dX6_bestGate_38 : decode cX6_bestGate 38 = .ok (.iload_n 3, 1) := by decide +kernel
theorem dX6_bestGate_39 : decode cX6_bestGate 39 = .ok (.if_icmp .le 9, 3) := by decide +kernel
theorem dX6_bestGate_42 : decode cX6_bestGate 42 = .ok (.iload 5, 2) := by decide +kernel
theorem dX6_bestGate_44 : decode cX6_bestGate 44 = .ok (.istore_n 3, 1) := by decide +kernel
theorem dX6_bestGate_45 : decode cX6_bestGate 45 = .ok (.iload 4, 2) := by decide +kernel
theorem dX6_bestGate_47 : decode cX6_bestGate 47 = .ok (.istore_n 2, 1) := by decide +kernel
theorem dX6_bestGate_48 : decode cX6_bestGate 48 = .ok (.iinc 4 1, 3) := by decide +kernel
theorem dX6_bestGate_51 : decode cX6_bestGate 51 = .ok (.goto (-30), 3) := by decide +kernel
theorem dX6_bestGate_54 : decode cX6_bestGate 54 = .ok (.iload_n 2, 1) := by decide +kernel
theorem dX6_bestGate_55 : decode cX6_bestGate 55 = .ok (.ireturn, 1) := by decide +kernel
theorem dX6_count_0 : decode cX6_count 0 = .ok (.iload_n 1, 1) := by decide +kernel
theorem dX6_count_1 : decode cX6_count 1 = .ok (.bipush 20, 2) := by decide +kernel
theorem dX6_count_3 : decode cX6_count 3 = .ok (.bipush 32, 2) := by decide +kernel
theorem dX6_count_5 : decode cX6_count 5 = .ok (.invokestatic 75, 3) := by decide +kernel
theorem dX6_count_8 : decode cX6_count 8 = .ok (.ifCond .eq 16, 3) := by decide +kernel
theorem dX6_count_11 : decode cX6_count 11 = .ok (.aload_n 0, 1) := by decide +kernel
theorem dX6_count_12 : decode cX6_count 12 = .ok (.getfield 10, 3) := by decide +kernel
theorem dX6_count_15 : decode cX6_count 15 = .ok (.getfield 163, 3) := by decide +kernel
theorem dX6_count_18 : decode cX6_count 18 = .ok (.iload_n 1, 1) := by decide +kernel
theorem dX6_count_19 : decode cX6_count 19 = .ok (.bipush 20, 2) := by decide +kernel
theorem dX6_count_21 : decode cX6_count 21 = .ok (.isub, 1) := by decide +kernel
theorem dX6_count_22 : decode cX6_count 22 = .ok (.iaload, 1) := by decide +kernel
theorem dX6_count_23 : decode cX6_count 23 = .ok (.ireturn, 1) := by decide +kernel
theorem dX6_count_24 : decode cX6_count 24 = .ok (.iload_n 1, 1) := by decide +kernel
theorem dX6_count_25 : decode cX6_count 25 = .ok (.lookupswitch 43 #[(9, 27), (10, 35)], 27) := by decide +kernel
theorem dX6_count_52 : decode cX6_count 52 = .ok (.aload_n 0, 1) := by decide +kernel
theorem dX6_count_53 : decode cX6_count 53 = .ok (.getfield 22, 3) := by decide +kernel
theorem dX6_count_56 : decode cX6_count 56 = .ok (.getfield 167, 3) := by decide +kernel
theorem dX6_count_59 : decode cX6_count 59 = .ok (.ireturn, 1) := by decide +kernel
theorem dX6_count_60 : decode cX6_count 60 = .ok (.aload_n 0, 1) := by decide +kernel
theorem dX6_count_61 : decode cX6_count 61 = .ok (.getfield 29, 3) := by decide +kernel
theorem dX6_count_64 : decode cX6_count 64 = .ok (.getfield 170, 3) := by decide +kernel
theorem dX6_count_67 : decode cX6_count 67 = .ok (.ireturn, 1) := by decide +kernel
theorem dX6_count_68 : decode cX6_count 68 = .ok (.aload_n 0, 1) := by decide +kernel
theorem dX6_count_69 : decode cX6_count 69 = .ok (.getfield 10, 3) := by decide +kernel
theorem dX6_count_72 : decode cX6_count 72 = .ok (.iload_n 1, 1) := by decide +kernel
theorem dX6_count_73 : decode cX6_count 73 = .ok (.invokevirtual 173, 3) := by decide +kernel
theorem dX6_count_76 : decode cX6_count 76 = .ok (.ireturn, 1) := by decide +kernel
theorem dX6_undo_0 : decode cX6_undo 0 = .ok (.aload_n 0, 1) := by decide +kernel
theorem dX6_undo_1 : decode cX6_undo 1 = .ok (.getfield 22, 3) := by decide +kernel
theorem dX6_undo_4 : decode cX6_undo 4 = .ok (.aload_n 0, 1) := by decide +kernel
theorem dX6_undo_5 : decode cX6_undo 5 = .ok (.getfield 10, 3) := by decide +kernel
theorem dX6_undo_8 : decode cX6_undo 8 = .ok (.invokevirtual 176, 3) := by decide +kernel
theorem dX6_undo_11 : decode cX6_undo 11 = .ok (.ireturn, 1) := by decide +kernel
theorem dX6_type_0 : decode cX6_type 0 = .ok (.iload_n 1, 1) := by decide +kernel
theorem dX6_type_1 : decode cX6_type 1 = .ok (.bipush 32, 2) := by decide +kernel
theorem dX6_type_3 : decode cX6_type 3 = .ok (.bipush 126, 2) := by decide +kernel
theorem dX6_type_5 : decode cX6_type 5 = .ok (.invokestatic 75, 3) := by decide +kernel
theorem dX6_type_8 : decode cX6_type 8 = .ok (.ifCond .ne 6, 3) := by decide +kernel
theorem dX6_type_11 : decode cX6_type 11 = .ok (.ldc 79, 2) := by decide +kernel
theorem dX6_type_13 : decode cX6_type 13 = .ok (.ireturn, 1) := by decide +kernel
theorem dX6_type_14 : decode cX6_type 14 = .ok (.aload_n 0, 1) := by decide +kernel
theorem dX6_type_15 : decode cX6_type 15 = .ok (.getfield 29, 3) := by decide +kernel
theorem dX6_type_18 : decode cX6_type 18 = .ok (.iload_n 1, 1) := by decide +kernel
theorem dX6_type_19 : decode cX6_type 19 = .ok (.i2c, 1) := by decide +kernel
theorem dX6_type_20 : decode cX6_type 20 = .ok (.invokevirtual 180, 3) := by decide +kernel
theorem dX6_type_23 : decode cX6_type 23 = .ok (.ireturn, 1) := by decide +kernel
theorem dX6_clearText_0 : decode cX6_clearText 0 = .ok (.aload_n 0, 1) := by decide +kernel
theorem dX6_clearText_1 : decode cX6_clearText 1 = .ok (.getfield 29, 3) := by decide +kernel
theorem dX6_clearText_4 : decode cX6_clearText 4 = .ok (.invokevirtual 184, 3) := by decide +kernel
theorem dX6_clearText_7 : decode cX6_clearText 7 = .ok (.ireturn, 1) := by decide +kernel
theorem dX6_fault_0 : decode cX6_fault 0 = .ok (.iload_n 1, 1) := by decide +kernel
theorem dX6_fault_1 : decode cX6_fault 1 = .ok (.iconst 0, 1) := by decide +kernel
theorem dX6_fault_2 : decode cX6_fault 2 = .ok (.iconst 1, 1) := by decide +kernel
theorem dX6_fault_3 : decode cX6_fault 3 = .ok (.invokestatic 75, 3) := by decide +kernel
theorem dX6_fault_6 : decode cX6_fault 6 = .ok (.ifCond .ne 6, 3) := by decide +kernel
theorem dX6_fault_9 : decode cX6_fault 9 = .ok (.ldc 79, 2) := by decide +kernel
theorem dX6_fault_11 : decode cX6_fault 11 = .ok (.ireturn, 1) := by decide +kernel
theorem dX6_fault_12 : decode cX6_fault 12 = .ok (.aload_n 0, 1) := by decide +kernel
theorem dX6_fault_13 : decode cX6_fault 13 = .ok (.getfield 16, 3) := by decide +kernel
theorem dX6_fault_16 : decode cX6_fault 16 = .ok (.aload_n 0, 1) := by decide +kernel
theorem dX6_fault_17 : decode cX6_fault 17 = .ok (.getfield 10, 3) := by decide +kernel
theorem dX6_fault_20 : decode cX6_fault 20 = .ok (.invokevirtual 154, 3) := by decide +kernel
theorem dX6_fault_23 : decode cX6_fault 23 = .ok (.aload_n 0, 1) := by decide +kernel
theorem dX6_fault_24 : decode cX6_fault 24 = .ok (.getfield 29, 3) := by decide +kernel
theorem dX6_fault_27 : decode cX6_fault 27 = .ok (.aload_n 0, 1) := by decide +kernel
theorem dX6_fault_28 : decode cX6_fault 28 = .ok (.getfield 16, 3) := by decide +kernel
theorem dX6_fault_31 : decode cX6_fault 31 = .ok (.invokevirtual 187, 3) := by decide +kernel
theorem dX6_fault_34 : decode cX6_fault 34 = .ok (.aload_n 0, 1) := by decide +kernel
theorem dX6_fault_35 : decode cX6_fault 35 = .ok (.getfield 29, 3) := by decide +kernel
theorem dX6_fault_38 : decode cX6_fault 38 = .ok (.getfield 190, 3) := by decide +kernel
theorem dX6_fault_41 : decode cX6_fault 41 = .ok (.ifCond .ne 6, 3) := by decide +kernel
theorem dX6_fault_44 : decode cX6_fault 44 = .ok (.ldc 124, 2) := by decide +kernel
theorem dX6_fault_46 : decode cX6_fault 46 = .ok (.ireturn, 1) := by decide +kernel
theorem dX6_fault_47 : decode cX6_fault 47 = .ok (.iload_n 1, 1) := by decide +kernel
theorem dX6_fault_48 : decode cX6_fault 48 = .ok (.ifCond .ne 13, 3) := by decide +kernel
theorem dX6_fault_51 : decode cX6_fault 51 = .ok (.aload_n 0, 1) := by decide +kernel
theorem dX6_fault_52 : decode cX6_fault 52 = .ok (.getfield 29, 3) := by decide +kernel
theorem dX6_fault_55 : decode cX6_fault 55 = .ok (.getfield 193, 3) := by decide +kernel
theorem dX6_fault_58 : decode cX6_fault 58 = .ok (.goto 10, 3) := by decide +kernel
theorem dX6_fault_61 : decode cX6_fault 61 = .ok (.aload_n 0, 1) := by decide +kernel
theorem dX6_fault_62 : decode cX6_fault 62 = .ok (.getfield 29, 3) := by decide +kernel
theorem dX6_fault_65 : decode cX6_fault 65 = .ok (.getfield 190, 3) := by decide +kernel
theorem dX6_fault_68 : decode cX6_fault 68 = .ok (.ireturn, 1) := by decide +kernel
theorem dX6_play_0 : decode cX6_play 0 = .ok (.aload_n 0, 1) := by decide +kernel
theorem dX6_play_1 : decode cX6_play 1 = .ok (.getfield 16, 3) := by decide +kernel
theorem dX6_play_4 : decode cX6_play 4 = .ok (.aload_n 0, 1) := by decide +kernel
theorem dX6_play_5 : decode cX6_play 5 = .ok (.getfield 10, 3) := by decide +kernel
theorem dX6_play_8 : decode cX6_play 8 = .ok (.invokevirtual 154, 3) := by decide +kernel
theorem dX6_play_11 : decode cX6_play 11 = .ok (.aload_n 0, 1) := by decide +kernel
theorem dX6_play_12 : decode cX6_play 12 = .ok (.getfield 29, 3) := by decide +kernel
theorem dX6_play_15 : decode cX6_play 15 = .ok (.aload_n 0, 1) := by decide +kernel
theorem dX6_play_16 : decode cX6_play 16 = .ok (.getfield 16, 3) := by decide +kernel
theorem dX6_play_19 : decode cX6_play 19 = .ok (.invokevirtual 187, 3) := by decide +kernel
theorem dX6_play_22 : decode cX6_play 22 = .ok (.aload_n 0, 1) := by decide +kernel
theorem dX6_play_23 : decode cX6_play 23 = .ok (.getfield 29, 3) := by decide +kernel
theorem dX6_play_26 : decode cX6_play 26 = .ok (.getfield 190, 3) := by decide +kernel
theorem dX6_play_29 : decode cX6_play 29 = .ok (.ifCond .eq 6, 3) := by decide +kernel
theorem dX6_play_32 : decode cX6_play 32 = .ok (.ldc 153, 2) := by decide +kernel
theorem dX6_play_34 : decode cX6_play 34 = .ok (.ireturn, 1) := by decide +kernel
theorem dX6_play_35 : decode cX6_play 35 = .ok (.aload_n 0, 1) := by decide +kernel
theorem dX6_play_36 : decode cX6_play 36 = .ok (.getfield 22, 3) := by decide +kernel
theorem dX6_play_39 : decode cX6_play 39 = .ok (.aload_n 0, 1) := by decide +kernel
theorem dX6_play_40 : decode cX6_play 40 = .ok (.getfield 10, 3) := by decide +kernel
theorem dX6_play_43 : decode cX6_play 43 = .ok (.invokevirtual 33, 3) := by decide +kernel
theorem dX6_play_46 : decode cX6_play 46 = .ok (.aload_n 0, 1) := by decide +kernel
theorem dX6_play_47 : decode cX6_play 47 = .ok (.getfield 10, 3) := by decide +kernel
theorem dX6_play_50 : decode cX6_play 50 = .ok (.aload_n 0, 1) := by decide +kernel
theorem dX6_play_51 : decode cX6_play 51 = .ok (.getfield 16, 3) := by decide +kernel
theorem dX6_play_54 : decode cX6_play 54 = .ok (.invokevirtual 154, 3) := by decide +kernel
theorem dX6_play_57 : decode cX6_play 57 = .ok (.aload_n 0, 1) := by decide +kernel
theorem dX6_play_58 : decode cX6_play 58 = .ok (.getfield 22, 3) := by decide +kernel
theorem dX6_play_61 : decode cX6_play 61 = .ok (.aload_n 0, 1) := by decide +kernel
theorem dX6_play_62 : decode cX6_play 62 = .ok (.getfield 29, 3) := by decide +kernel
theorem dX6_play_65 : decode cX6_play 65 = .ok (.getfield 196, 3) := by decide +kernel
theorem dX6_play_68 : decode cX6_play 68 = .ok (.invokevirtual 41, 3) := by decide +kernel
theorem dX6_play_71 : decode cX6_play 71 = .ok (.ireturn, 1) := by decide +kernel
theorem dX6_groundBy_0 : decode cX6_groundBy 0 = .ok (.aload_n 0, 1) := by decide +kernel
theorem dX6_groundBy_1 : decode cX6_groundBy 1 = .ok (.getfield 16, 3) := by decide +kernel
theorem dX6_groundBy_4 : decode cX6_groundBy 4 = .ok (.aload_n 0, 1) := by decide +kernel
theorem dX6_groundBy_5 : decode cX6_groundBy 5 = .ok (.getfield 10, 3) := by decide +kernel
theorem dX6_groundBy_8 : decode cX6_groundBy 8 = .ok (.invokevirtual 154, 3) := by decide +kernel
theorem dX6_groundBy_11 : decode cX6_groundBy 11 = .ok (.aload_n 0, 1) := by decide +kernel
theorem dX6_groundBy_12 : decode cX6_groundBy 12 = .ok (.getfield 16, 3) := by decide +kernel
theorem dX6_groundBy_15 : decode cX6_groundBy 15 = .ok (.iload_n 1, 1) := by decide +kernel
theorem dX6_groundBy_16 : decode cX6_groundBy 16 = .ok (.putfield 199, 3) := by decide +kernel
theorem dX6_groundBy_19 : decode cX6_groundBy 19 = .ok (.iconst 0, 1) := by decide +kernel
theorem dX6_groundBy_20 : decode cX6_groundBy 20 = .ok (.istore_n 3, 1) := by decide +kernel
theorem dX6_groundBy_21 : decode cX6_groundBy 21 = .ok (.iload_n 3, 1) := by decide +kernel
theorem dX6_groundBy_22 : decode cX6_groundBy 22 = .ok (.iload_n 2, 1) := by decide +kernel
theorem dX6_groundBy_23 : decode cX6_groundBy 23 = .ok (.if_icmp .ge 16, 3) := by decide +kernel
theorem dX6_groundBy_26 : decode cX6_groundBy 26 = .ok (.aload_n 0, 1) := by decide +kernel
theorem dX6_groundBy_27 : decode cX6_groundBy 27 = .ok (.getfield 16, 3) := by decide +kernel
theorem dX6_groundBy_30 : decode cX6_groundBy 30 = .ok (.invokevirtual 157, 3) := by decide +kernel
theorem dX6_groundBy_33 : decode cX6_groundBy 33 = .ok (.iinc 3 1, 3) := by decide +kernel
theorem dX6_groundBy_36 : decode cX6_groundBy 36 = .ok (.goto (-15), 3) := by decide +kernel
theorem dX6_groundBy_39 : decode cX6_groundBy 39 = .ok (.aload_n 0, 1) := by decide +kernel
theorem dX6_groundBy_40 : decode cX6_groundBy 40 = .ok (.getfield 16, 3) := by decide +kernel
theorem dX6_groundBy_43 : decode cX6_groundBy 43 = .ok (.getfield 202, 3) := by decide +kernel
theorem dX6_groundBy_46 : decode cX6_groundBy 46 = .ok (.aload_n 0, 1) := by decide +kernel
theorem dX6_groundBy_47 : decode cX6_groundBy 47 = .ok (.getfield 10, 3) := by decide +kernel
theorem dX6_groundBy_50 : decode cX6_groundBy 50 = .ok (.getfield 202, 3) := by decide +kernel
theorem dX6_groundBy_53 : decode cX6_groundBy 53 = .ok (.isub, 1) := by decide +kernel
theorem dX6_groundBy_54 : decode cX6_groundBy 54 = .ok (.ireturn, 1) := by decide +kernel
theorem dX6_within_0 : decode cX6_within 0 = .ok (.iload_n 0, 1) := by decide +kernel
theorem dX6_within_1 : decode cX6_within 1 = .ok (.iload_n 1, 1) := by decide +kernel
theorem dX6_within_2 : decode cX6_within 2 = .ok (.if_icmp .lt 12, 3) := by decide +kernel
theorem dX6_within_5 : decode cX6_within 5 = .ok (.iload_n 0, 1) := by decide +kernel
theorem dX6_within_6 : decode cX6_within 6 = .ok (.iload_n 2, 1) := by decide +kernel
theorem dX6_within_7 : decode cX6_within 7 = .ok (.if_icmp .gt 7, 3) := by decide +kernel
theorem dX6_within_10 : decode cX6_within 10 = .ok (.iconst 1, 1) := by decide +kernel
theorem dX6_within_11 : decode cX6_within 11 = .ok (.goto 4, 3) := by decide +kernel
theorem dX6_within_14 : decode cX6_within 14 = .ok (.iconst 0, 1) := by decide +kernel
theorem dX6_within_15 : decode cX6_within 15 = .ok (.ireturn, 1) := by decide +kernel
theorem dX6_quotient_0 : decode cX6_quotient 0 = .ok (.iload_n 1, 1) := by decide +kernel
theorem dX6_quotient_1 : decode cX6_quotient 1 = .ok (.ifCond .le 9, 3) := by decide +kernel
theorem dX6_quotient_4 : decode cX6_quotient 4 = .ok (.iload_n 0, 1) := by decide +kernel
theorem dX6_quotient_5 : decode cX6_quotient 5 = .ok (.iload_n 1, 1) := by decide +kernel
theorem dX6_quotient_6 : decode cX6_quotient 6 = .ok (.idiv, 1) := by decide +kernel
theorem dX6_quotient_7 : decode cX6_quotient 7 = .ok (.goto 4, 3) := by decide +kernel
theorem dX6_quotient_10 : decode cX6_quotient 10 = .ok (.iconst 0, 1) := by decide +kernel
theorem dX6_quotient_11 : decode cX6_quotient 11 = .ok (.ireturn, 1) := by decide +kernel
end
section
theorem dL_law_0 : decode cL_law 0 = .ok (.new 7, 3) := by decide +kernel
theorem dL_law_3 : decode cL_law 3 = .ok (.dup, 1) := by decide +kernel
theorem dL_law_4 : decode cL_law 4 = .ok (.invokespecial 9, 3) := by decide +kernel
theorem dL_law_7 : decode cL_law 7 = .ok (.astore_n 1, 1) := by decide +kernel
theorem dL_law_8 : decode cL_law 8 = .ok (.new 10, 3) := by decide +kernel
theorem dL_law_11 : decode cL_law 11 = .ok (.dup, 1) := by decide +kernel
theorem dL_law_12 : decode cL_law 12 = .ok (.invokespecial 12, 3) := by decide +kernel
theorem dL_law_15 : decode cL_law 15 = .ok (.astore_n 2, 1) := by decide +kernel
theorem dL_law_16 : decode cL_law 16 = .ok (.iconst 0, 1) := by decide +kernel
theorem dL_law_17 : decode cL_law 17 = .ok (.istore_n 3, 1) := by decide +kernel
theorem dL_law_18 : decode cL_law 18 = .ok (.iload_n 3, 1) := by decide +kernel
theorem dL_law_19 : decode cL_law 19 = .ok (.aload_n 0, 1) := by decide +kernel
theorem dL_law_20 : decode cL_law 20 = .ok (.arraylength, 1) := by decide +kernel
theorem dL_law_21 : decode cL_law 21 = .ok (.iconst 4, 1) := by decide +kernel
theorem dL_law_22 : decode cL_law 22 = .ok (.isub, 1) := by decide +kernel
theorem dL_law_23 : decode cL_law 23 = .ok (.if_icmp .gt 958, 3) := by decide +kernel
theorem dL_law_26 : decode cL_law 26 = .ok (.aload_n 0, 1) := by decide +kernel
theorem dL_law_27 : decode cL_law 27 = .ok (.iload_n 3, 1) := by decide +kernel
theorem dL_law_28 : decode cL_law 28 = .ok (.iaload, 1) := by decide +kernel
theorem dL_law_29 : decode cL_law 29 = .ok (.bipush 31, 2) := by decide +kernel
theorem dL_law_31 : decode cL_law 31 = .ok (.iand, 1) := by decide +kernel
theorem dL_law_32 : decode cL_law 32 = .ok (.tableswitch 943 0 30 #[140, 173, 206, 229, 252, 295, 308, 351, 374, 397, 430, 463, 496, 519, 562, 595, 628, 651, 674, 707, 730, 753, 766, 789, 812, 835, 858, 871, 894, 907, 930], 140) := by decide +kernel
theorem dL_law_172 : decode cL_law 172 = .ok (.aload_n 1, 1) := by decide +kernel
theorem dL_law_173 : decode cL_law 173 = .ok (.aload_n 0, 1) := by decide +kernel
theorem dL_law_174 : decode cL_law 174 = .ok (.iload_n 3, 1) := by decide +kernel
theorem dL_law_175 : decode cL_law 175 = .ok (.iconst 1, 1) := by decide +kernel
theorem dL_law_176 : decode cL_law 176 = .ok (.iadd, 1) := by decide +kernel
theorem dL_law_177 : decode cL_law 177 = .ok (.iaload, 1) := by decide +kernel
theorem dL_law_178 : decode cL_law 178 = .ok (.aload_n 0, 1) := by decide +kernel
theorem dL_law_179 : decode cL_law 179 = .ok (.iload_n 3, 1) := by decide +kernel
theorem dL_law_180 : decode cL_law 180 = .ok (.iconst 2, 1) := by decide +kernel
theorem dL_law_181 : decode cL_law 181 = .ok (.iadd, 1) := by decide +kernel
theorem dL_law_182 : decode cL_law 182 = .ok (.iaload, 1) := by decide +kernel
theorem dL_law_183 : decode cL_law 183 = .ok (.invokevirtual 13, 3) := by decide +kernel
theorem dL_law_186 : decode cL_law 186 = .ok (.aload_n 2, 1) := by decide +kernel
theorem dL_law_187 : decode cL_law 187 = .ok (.aload_n 0, 1) := by decide +kernel
theorem dL_law_188 : decode cL_law 188 = .ok (.iload_n 3, 1) := by decide +kernel
theorem dL_law_189 : decode cL_law 189 = .ok (.iconst 1, 1) := by decide +kernel
theorem dL_law_190 : decode cL_law 190 = .ok (.iadd, 1) := by decide +kernel
theorem dL_law_191 : decode cL_law 191 = .ok (.iaload, 1) := by decide +kernel
theorem dL_law_192 : decode cL_law 192 = .ok (.aload_n 0, 1) := by decide +kernel
theorem dL_law_193 : decode cL_law 193 = .ok (.iload_n 3, 1) := by decide +kernel
theorem dL_law_194 : decode cL_law 194 = .ok (.iconst 2, 1) := by decide +kernel
theorem dL_law_195 : decode cL_law 195 = .ok (.iadd, 1) := by decide +kernel
theorem dL_law_196 : decode cL_law 196 = .ok (.iaload, 1) := by decide +kernel
theorem dL_law_197 : decode cL_law 197 = .ok (.invokevirtual 17, 3) := by decide +kernel
theorem dL_law_200 : decode cL_law 200 = .ok (.if_icmp .eq 775, 3) := by decide +kernel
theorem dL_law_203 : decode cL_law 203 = .ok (.iconst 0, 1) := by decide +kernel
theorem dL_law_204 : decode cL_law 204 = .ok (.ireturn, 1) := by decide +kernel
theorem dL_law_205 : decode cL_law 205 = .ok (.aload_n 1, 1) := by decide +kernel
theorem dL_law_206 : decode cL_law 206 = .ok (.aload_n 0, 1) := by decide +kernel
theorem dL_law_207 : decode cL_law 207 = .ok (.iload_n 3, 1) := by decide +kernel
theorem dL_law_208 : decode cL_law 208 = .ok (.iconst 1, 1) := by decide +kernel
theorem dL_law_209 : decode cL_law 209 = .ok (.iadd, 1) := by decide +kernel
theorem dL_law_210 : decode cL_law 210 = .ok (.iaload, 1) := by decide +kernel
theorem dL_law_211 : decode cL_law 211 = .ok (.aload_n 0, 1) := by decide +kernel
theorem dL_law_212 : decode cL_law 212 = .ok (.iload_n 3, 1) := by decide +kernel
theorem dL_law_213 : decode cL_law 213 = .ok (.iconst 2, 1) := by decide +kernel
theorem dL_law_214 : decode cL_law 214 = .ok (.iadd, 1) := by decide +kernel
theorem dL_law_215 : decode cL_law 215 = .ok (.iaload, 1) := by decide +kernel
theorem dL_law_216 : decode cL_law 216 = .ok (.invokevirtual 18, 3) := by decide +kernel
theorem dL_law_219 : decode cL_law 219 = .ok (.aload_n 2, 1) := by decide +kernel
theorem dL_law_220 : decode cL_law 220 = .ok (.aload_n 0, 1) := by decide +kernel
theorem dL_law_221 : decode cL_law 221 = .ok (.iload_n 3, 1) := by decide +kernel
theorem dL_law_222 : decode cL_law 222 = .ok (.iconst 1, 1) := by decide +kernel
theorem dL_law_223 : decode cL_law 223 = .ok (.iadd, 1) := by decide +kernel
theorem dL_law_224 : decode cL_law 224 = .ok (.iaload, 1) := by decide +kernel
theorem dL_law_225 : decode cL_law 225 = .ok (.aload_n 0, 1) := by decide +kernel
theorem dL_law_226 : decode cL_law 226 = .ok (.iload_n 3, 1) := by decide +kernel
theorem dL_law_227 : decode cL_law 227 = .ok (.iconst 2, 1) := by decide +kernel
theorem dL_law_228 : decode cL_law 228 = .ok (.iadd, 1) := by decide +kernel
theorem dL_law_229 : decode cL_law 229 = .ok (.iaload, 1) := by decide +kernel
theorem dL_law_230 : decode cL_law 230 = .ok (.invokevirtual 21, 3) := by decide +kernel
theorem dL_law_233 : decode cL_law 233 = .ok (.if_icmp .eq 742, 3) := by decide +kernel
theorem dL_law_236 : decode cL_law 236 = .ok (.iconst 0, 1) := by decide +kernel
theorem dL_law_237 : decode cL_law 237 = .ok (.ireturn, 1) := by decide +kernel
theorem dL_law_238 : decode cL_law 238 = .ok (.aload_n 1, 1) := by decide +kernel
theorem dL_law_239 : decode cL_law 239 = .ok (.aload_n 0, 1) := by decide +kernel
theorem dL_law_240 : decode cL_law 240 = .ok (.iload_n 3, 1) := by decide +kernel
theorem dL_law_241 : decode cL_law 241 = .ok (.iconst 1, 1) := by decide +kernel
theorem dL_law_242 : decode cL_law 242 = .ok (.iadd, 1) := by decide +kernel
theorem dL_law_243 : decode cL_law 243 = .ok (.iaload, 1) := by decide +kernel
theorem dL_law_244 : decode cL_law 244 = .ok (.invokevirtual 22, 3) := by decide +kernel
theorem dL_law_247 : decode cL_law 247 = .ok (.aload_n 2, 1) := by decide +kernel
theorem dL_law_248 : decode cL_law 248 = .ok (.aload_n 0, 1) := by decide +kernel
theorem dL_law_249 : decode cL_law 249 = .ok (.iload_n 3, 1) := by decide +kernel
theorem dL_law_250 : decode cL_law 250 = .ok (.iconst 1, 1) := by decide +kernel
theorem dL_law_251 : decode cL_law 251 = .ok (.iadd, 1) := by decide +kernel
theorem dL_law_252 : decode cL_law 252 = .ok (.iaload, 1) := by decide +kernel
theorem dL_law_253 : decode cL_law 253 = .ok (.invokevirtual 26, 3) := by decide +kernel
theorem dL_law_256 : decode cL_law 256 = .ok (.if_icmp .eq 719, 3) := by decide +kernel
theorem dL_law_259 : decode cL_law 259 = .ok (.iconst 0, 1) := by decide +kernel
theorem dL_law_260 : decode cL_law 260 = .ok (.ireturn, 1) := by decide +kernel
theorem dL_law_261 : decode cL_law 261 = .ok (.aload_n 1, 1) := by decide +kernel
theorem dL_law_262 : decode cL_law 262 = .ok (.aload_n 0, 1) := by decide +kernel
theorem dL_law_263 : decode cL_law 263 = .ok (.iload_n 3, 1) := by decide +kernel
theorem dL_law_264 : decode cL_law 264 = .ok (.iconst 1, 1) := by decide +kernel
theorem dL_law_265 : decode cL_law 265 = .ok (.iadd, 1) := by decide +kernel
theorem dL_law_266 : decode cL_law 266 = .ok (.iaload, 1) := by decide +kernel
theorem dL_law_267 : decode cL_law 267 = .ok (.invokevirtual 27, 3) := by decide +kernel
theorem dL_law_270 : decode cL_law 270 = .ok (.aload_n 2, 1) := by decide +kernel
theorem dL_law_271 : decode cL_law 271 = .ok (.aload_n 0, 1) := by decide +kernel
theorem dL_law_272 : decode cL_law 272 = .ok (.iload_n 3, 1) := by decide +kernel
theorem dL_law_273 : decode cL_law 273 = .ok (.iconst 1, 1) := by decide +kernel
theorem dL_law_274 : decode cL_law 274 = .ok (.iadd, 1) := by decide +kernel
theorem dL_law_275 : decode cL_law 275 = .ok (.iaload, 1) := by decide +kernel
theorem dL_law_276 : decode cL_law 276 = .ok (.invokevirtual 30, 3) := by decide +kernel
theorem dL_law_279 : decode cL_law 279 = .ok (.if_icmp .eq 696, 3) := by decide +kernel
theorem dL_law_282 : decode cL_law 282 = .ok (.iconst 0, 1) := by decide +kernel
theorem dL_law_283 : decode cL_law 283 = .ok (.ireturn, 1) := by decide +kernel
theorem dL_law_284 : decode cL_law 284 = .ok (.aload_n 1, 1) := by decide +kernel
theorem dL_law_285 : decode cL_law 285 = .ok (.aload_n 0, 1) := by decide +kernel
theorem dL_law_286 : decode cL_law 286 = .ok (.iload_n 3, 1) := by decide +kernel
theorem dL_law_287 : decode cL_law 287 = .ok (.iconst 1, 1) := by decide +kernel
theorem dL_law_288 : decode cL_law 288 = .ok (.iadd, 1) := by decide +kernel
theorem dL_law_289 : decode cL_law 289 = .ok (.iaload, 1) := by decide +kernel
theorem dL_law_290 : decode cL_law 290 = .ok (.aload_n 0, 1) := by decide +kernel
theorem dL_law_291 : decode cL_law 291 = .ok (.iload_n 3, 1) := by decide +kernel
theorem dL_law_292 : decode cL_law 292 = .ok (.iconst 2, 1) := by decide +kernel
theorem dL_law_293 : decode cL_law 293 = .ok (.iadd, 1) := by decide +kernel
theorem dL_law_294 : decode cL_law 294 = .ok (.iaload, 1) := by decide +kernel
theorem dL_law_295 : decode cL_law 295 = .ok (.aload_n 0, 1) := by decide +kernel
theorem dL_law_296 : decode cL_law 296 = .ok (.iload_n 3, 1) := by decide +kernel
theorem dL_law_297 : decode cL_law 297 = .ok (.iconst 3, 1) := by decide +kernel
theorem dL_law_298 : decode cL_law 298 = .ok (.iadd, 1) := by decide +kernel
theorem dL_law_299 : decode cL_law 299 = .ok (.iaload, 1) := by decide +kernel
theorem dL_law_300 : decode cL_law 300 = .ok (.invokevirtual 31, 3) := by decide +kernel
theorem dL_law_303 : decode cL_law 303 = .ok (.aload_n 2, 1) := by decide +kernel
theorem dL_law_304 : decode cL_law 304 = .ok (.aload_n 0, 1) := by decide +kernel
theorem dL_law_305 : decode cL_law 305 = .ok (.iload_n 3, 1) := by decide +kernel
theorem dL_law_306 : decode cL_law 306 = .ok (.iconst 1, 1) := by decide +kernel
theorem dL_law_307 : decode cL_law 307 = .ok (.iadd, 1) := by decide +kernel
theorem dL_law_308 : decode cL_law 308 = .ok (.iaload, 1) := by decide +kernel
theorem dL_law_309 : decode cL_law 309 = .ok (.aload_n 0, 1) := by decide +kernel
theorem dL_law_310 : decode cL_law 310 = .ok (.iload_n 3, 1) := by decide +kernel
theorem dL_law_311 : decode cL_law 311 = .ok (.iconst 2, 1) := by decide +kernel
theorem dL_law_312 : decode cL_law 312 = .ok (.iadd, 1) := by decide +kernel
theorem dL_law_313 : decode cL_law 313 = .ok (.iaload, 1) := by decide +kernel
theorem dL_law_314 : decode cL_law 314 = .ok (.aload_n 0, 1) := by decide +kernel
theorem dL_law_315 : decode cL_law 315 = .ok (.iload_n 3, 1) := by decide +kernel
theorem dL_law_316 : decode cL_law 316 = .ok (.iconst 3, 1) := by decide +kernel
theorem dL_law_317 : decode cL_law 317 = .ok (.iadd, 1) := by decide +kernel
theorem dL_law_318 : decode cL_law 318 = .ok (.iaload, 1) := by decide +kernel
theorem dL_law_319 : decode cL_law 319 = .ok (.invokevirtual 35, 3) := by decide +kernel
theorem dL_law_322 : decode cL_law 322 = .ok (.if_icmp .eq 653, 3) := by decide +kernel
theorem dL_law_325 : decode cL_law 325 = .ok (.iconst 0, 1) := by decide +kernel
theorem dL_law_326 : decode cL_law 326 = .ok (.ireturn, 1) := by decide +kernel
theorem dL_law_327 : decode cL_law 327 = .ok (.aload_n 1, 1) := by decide +kernel
theorem dL_law_328 : decode cL_law 328 = .ok (.invokevirtual 36, 3) := by decide +kernel
theorem dL_law_331 : decode cL_law 331 = .ok (.aload_n 2, 1) := by decide +kernel
theorem dL_law_332 : decode cL_law 332 = .ok (.invokevirtual 40, 3) := by decide +kernel
theorem dL_law_335 : decode cL_law 335 = .ok (.if_icmp .eq 640, 3) := by decide +kernel
theorem dL_law_338 : decode cL_law 338 = .ok (.iconst 0, 1) := by decide +kernel
theorem dL_law_339 : decode cL_law 339 = .ok (.ireturn, 1) := by decide +kernel
theorem dL_law_340 : decode cL_law 340 = .ok (.aload_n 1, 1) := by decide +kernel
theorem dL_law_341 : decode cL_law 341 = .ok (.aload_n 0, 1) := by decide +kernel
theorem dL_law_342 : decode cL_law 342 = .ok (.iload_n 3, 1) := by decide +kernel
theorem dL_law_343 : decode cL_law 343 = .ok (.iconst 1, 1) := by decide +kernel
theorem dL_law_344 : decode cL_law 344 = .ok (.iadd, 1) := by decide +kernel
theorem dL_law_345 : decode cL_law 345 = .ok (.iaload, 1) := by decide +kernel
theorem dL_law_346 : decode cL_law 346 = .ok (.aload_n 0, 1) := by decide +kernel
theorem dL_law_347 : decode cL_law 347 = .ok (.iload_n 3, 1) := by decide +kernel
theorem dL_law_348 : decode cL_law 348 = .ok (.iconst 2, 1) := by decide +kernel
theorem dL_law_349 : decode cL_law 349 = .ok (.iadd, 1) := by decide +kernel
theorem dL_law_350 : decode cL_law 350 = .ok (.iaload, 1) := by decide +kernel
theorem dL_law_351 : decode cL_law 351 = .ok (.aload_n 0, 1) := by decide +kernel
theorem dL_law_352 : decode cL_law 352 = .ok (.iload_n 3, 1) := by decide +kernel
theorem dL_law_353 : decode cL_law 353 = .ok (.iconst 3, 1) := by decide +kernel
theorem dL_law_354 : decode cL_law 354 = .ok (.iadd, 1) := by decide +kernel
theorem dL_law_355 : decode cL_law 355 = .ok (.iaload, 1) := by decide +kernel
theorem dL_law_356 : decode cL_law 356 = .ok (.invokevirtual 41, 3) := by decide +kernel
theorem dL_law_359 : decode cL_law 359 = .ok (.aload_n 2, 1) := by decide +kernel
theorem dL_law_360 : decode cL_law 360 = .ok (.aload_n 0, 1) := by decide +kernel
theorem dL_law_361 : decode cL_law 361 = .ok (.iload_n 3, 1) := by decide +kernel
theorem dL_law_362 : decode cL_law 362 = .ok (.iconst 1, 1) := by decide +kernel
theorem dL_law_363 : decode cL_law 363 = .ok (.iadd, 1) := by decide +kernel
theorem dL_law_364 : decode cL_law 364 = .ok (.iaload, 1) := by decide +kernel
theorem dL_law_365 : decode cL_law 365 = .ok (.aload_n 0, 1) := by decide +kernel
theorem dL_law_366 : decode cL_law 366 = .ok (.iload_n 3, 1) := by decide +kernel
theorem dL_law_367 : decode cL_law 367 = .ok (.iconst 2, 1) := by decide +kernel
theorem dL_law_368 : decode cL_law 368 = .ok (.iadd, 1) := by decide +kernel
theorem dL_law_369 : decode cL_law 369 = .ok (.iaload, 1) := by decide +kernel
theorem dL_law_370 : decode cL_law 370 = .ok (.aload_n 0, 1) := by decide +kernel
theorem dL_law_371 : decode cL_law 371 = .ok (.iload_n 3, 1) := by decide +kernel
theorem dL_law_372 : decode cL_law 372 = .ok (.iconst 3, 1) := by decide +kernel
theorem dL_law_373 : decode cL_law 373 = .ok (.iadd, 1) := by decide +kernel
theorem dL_law_374 : decode cL_law 374 = .ok (.iaload, 1) := by decide +kernel
theorem dL_law_375 : decode cL_law 375 = .ok (.invokevirtual 44, 3) := by decide +kernel
theorem dL_law_378 : decode cL_law 378 = .ok (.if_icmp .eq 597, 3) := by decide +kernel
theorem dL_law_381 : decode cL_law 381 = .ok (.iconst 0, 1) := by decide +kernel
theorem dL_law_382 : decode cL_law 382 = .ok (.ireturn, 1) := by decide +kernel
theorem dL_law_383 : decode cL_law 383 = .ok (.aload_n 1, 1) := by decide +kernel
theorem dL_law_384 : decode cL_law 384 = .ok (.aload_n 0, 1) := by decide +kernel
theorem dL_law_385 : decode cL_law 385 = .ok (.iload_n 3, 1) := by decide +kernel
theorem dL_law_386 : decode cL_law 386 = .ok (.iconst 1, 1) := by decide +kernel
theorem dL_law_387 : decode cL_law 387 = .ok (.iadd, 1) := by decide +kernel
theorem dL_law_388 : decode cL_law 388 = .ok (.iaload, 1) := by decide +kernel
theorem dL_law_389 : decode cL_law 389 = .ok (.invokevirtual 45, 3) := by decide +kernel
theorem dL_law_392 : decode cL_law 392 = .ok (.aload_n 2, 1) := by decide +kernel
theorem dL_law_393 : decode cL_law 393 = .ok (.aload_n 0, 1) := by decide +kernel
theorem dL_law_394 : decode cL_law 394 = .ok (.iload_n 3, 1) := by decide +kernel
theorem dL_law_395 : decode cL_law 395 = .ok (.iconst 1, 1) := by decide +kernel
theorem dL_law_396 : decode cL_law 396 = .ok (.iadd, 1) := by decide +kernel
theorem dL_law_397 : decode cL_law 397 = .ok (.iaload, 1) := by decide +kernel
theorem dL_law_398 : decode cL_law 398 = .ok (.invokevirtual 48, 3) := by decide +kernel
theorem dL_law_401 : decode cL_law 401 = .ok (.if_icmp .eq 574, 3) := by decide +kernel
theorem dL_law_404 : decode cL_law 404 = .ok (.iconst 0, 1) := by decide +kernel
theorem dL_law_405 : decode cL_law 405 = .ok (.ireturn, 1) := by decide +kernel
theorem dL_law_406 : decode cL_law 406 = .ok (.aload_n 1, 1) := by decide +kernel
theorem dL_law_407 : decode cL_law 407 = .ok (.aload_n 0, 1) := by decide +kernel
theorem dL_law_408 : decode cL_law 408 = .ok (.iload_n 3, 1) := by decide +kernel
theorem dL_law_409 : decode cL_law 409 = .ok (.iconst 1, 1) := by decide +kernel
theorem dL_law_410 : decode cL_law 410 = .ok (.iadd, 1) := by decide +kernel
theorem dL_law_411 : decode cL_law 411 = .ok (.iaload, 1) := by decide +kernel
theorem dL_law_412 : decode cL_law 412 = .ok (.invokevirtual 49, 3) := by decide +kernel
theorem dL_law_415 : decode cL_law 415 = .ok (.aload_n 2, 1) := by decide +kernel
theorem dL_law_416 : decode cL_law 416 = .ok (.aload_n 0, 1) := by decide +kernel
theorem dL_law_417 : decode cL_law 417 = .ok (.iload_n 3, 1) := by decide +kernel
theorem dL_law_418 : decode cL_law 418 = .ok (.iconst 1, 1) := by decide +kernel
theorem dL_law_419 : decode cL_law 419 = .ok (.iadd, 1) := by decide +kernel
theorem dL_law_420 : decode cL_law 420 = .ok (.iaload, 1) := by decide +kernel
theorem dL_law_421 : decode cL_law 421 = .ok (.invokevirtual 52, 3) := by decide +kernel
theorem dL_law_424 : decode cL_law 424 = .ok (.if_icmp .eq 551, 3) := by decide +kernel
theorem dL_law_427 : decode cL_law 427 = .ok (.iconst 0, 1) := by decide +kernel
theorem dL_law_428 : decode cL_law 428 = .ok (.ireturn, 1) := by decide +kernel
theorem dL_law_429 : decode cL_law 429 = .ok (.aload_n 1, 1) := by decide +kernel
theorem dL_law_430 : decode cL_law 430 = .ok (.aload_n 0, 1) := by decide +kernel
theorem dL_law_431 : decode cL_law 431 = .ok (.iload_n 3, 1) := by decide +kernel
theorem dL_law_432 : decode cL_law 432 = .ok (.iconst 1, 1) := by decide +kernel
theorem dL_law_433 : decode cL_law 433 = .ok (.iadd, 1) := by decide +kernel
theorem dL_law_434 : decode cL_law 434 = .ok (.iaload, 1) := by decide +kernel
theorem dL_law_435 : decode cL_law 435 = .ok (.aload_n 0, 1) := by decide +kernel
theorem dL_law_436 : decode cL_law 436 = .ok (.iload_n 3, 1) := by decide +kernel
theorem dL_law_437 : decode cL_law 437 = .ok (.iconst 2, 1) := by decide +kernel
theorem dL_law_438 : decode cL_law 438 = .ok (.iadd, 1) := by decide +kernel
theorem dL_law_439 : decode cL_law 439 = .ok (.iaload, 1) := by decide +kernel
theorem dL_law_440 : decode cL_law 440 = .ok (.invokevirtual 53, 3) := by decide +kernel
theorem dL_law_443 : decode cL_law 443 = .ok (.aload_n 2, 1) := by decide +kernel
theorem dL_law_444 : decode cL_law 444 = .ok (.aload_n 0, 1) := by decide +kernel
theorem dL_law_445 : decode cL_law 445 = .ok (.iload_n 3, 1) := by decide +kernel
theorem dL_law_446 : decode cL_law 446 = .ok (.iconst 1, 1) := by decide +kernel
theorem dL_law_447 : decode cL_law 447 = .ok (.iadd, 1) := by decide +kernel
theorem dL_law_448 : decode cL_law 448 = .ok (.iaload, 1) := by decide +kernel
theorem dL_law_449 : decode cL_law 449 = .ok (.aload_n 0, 1) := by decide +kernel
theorem dL_law_450 : decode cL_law 450 = .ok (.iload_n 3, 1) := by decide +kernel
theorem dL_law_451 : decode cL_law 451 = .ok (.iconst 2, 1) := by decide +kernel
theorem dL_law_452 : decode cL_law 452 = .ok (.iadd, 1) := by decide +kernel
theorem dL_law_453 : decode cL_law 453 = .ok (.iaload, 1) := by decide +kernel
theorem dL_law_454 : decode cL_law 454 = .ok (.invokevirtual 56, 3) := by decide +kernel
theorem dL_law_457 : decode cL_law 457 = .ok (.if_icmp .eq 518, 3) := by decide +kernel
theorem dL_law_460 : decode cL_law 460 = .ok (.iconst 0, 1) := by decide +kernel
theorem dL_law_461 : decode cL_law 461 = .ok (.ireturn, 1) := by decide +kernel
theorem dL_law_462 : decode cL_law 462 = .ok (.aload_n 1, 1) := by decide +kernel
theorem dL_law_463 : decode cL_law 463 = .ok (.aload_n 0, 1) := by decide +kernel
theorem dL_law_464 : decode cL_law 464 = .ok (.iload_n 3, 1) := by decide +kernel
theorem dL_law_465 : decode cL_law 465 = .ok (.iconst 1, 1) := by decide +kernel
theorem dL_law_466 : decode cL_law 466 = .ok (.iadd, 1) := by decide +kernel
theorem dL_law_467 : decode cL_law 467 = .ok (.iaload, 1) := by decide +kernel
theorem dL_law_468 : decode cL_law 468 = .ok (.aload_n 0, 1) := by decide +kernel
theorem dL_law_469 : decode cL_law 469 = .ok (.iload_n 3, 1) := by decide +kernel
theorem dL_law_470 : decode cL_law 470 = .ok (.iconst 2, 1) := by decide +kernel
theorem dL_law_471 : decode cL_law 471 = .ok (.iadd, 1) := by decide +kernel
theorem dL_law_472 : decode cL_law 472 = .ok (.iaload, 1) := by decide +kernel
theorem dL_law_473 : decode cL_law 473 = .ok (.invokevirtual 57, 3) := by decide +kernel
theorem dL_law_476 : decode cL_law 476 = .ok (.aload_n 2, 1) := by decide +kernel
theorem dL_law_477 : decode cL_law 477 = .ok (.aload_n 0, 1) := by decide +kernel
theorem dL_law_478 : decode cL_law 478 = .ok (.iload_n 3, 1) := by decide +kernel
theorem dL_law_479 : decode cL_law 479 = .ok (.iconst 1, 1) := by decide +kernel
theorem dL_law_480 : decode cL_law 480 = .ok (.iadd, 1) := by decide +kernel
theorem dL_law_481 : decode cL_law 481 = .ok (.iaload, 1) := by decide +kernel
theorem dL_law_482 : decode cL_law 482 = .ok (.aload_n 0, 1) := by decide +kernel
theorem dL_law_483 : decode cL_law 483 = .ok (.iload_n 3, 1) := by decide +kernel
theorem dL_law_484 : decode cL_law 484 = .ok (.iconst 2, 1) := by decide +kernel
theorem dL_law_485 : decode cL_law 485 = .ok (.iadd, 1) := by decide +kernel
theorem dL_law_486 : decode cL_law 486 = .ok (.iaload, 1) := by decide +kernel
theorem dL_law_487 : decode cL_law 487 = .ok (.invokevirtual 60, 3) := by decide +kernel
theorem dL_law_490 : decode cL_law 490 = .ok (.if_icmp .eq 485, 3) := by decide +kernel
theorem dL_law_493 : decode cL_law 493 = .ok (.iconst 0, 1) := by decide +kernel
theorem dL_law_494 : decode cL_law 494 = .ok (.ireturn, 1) := by decide +kernel
theorem dL_law_495 : decode cL_law 495 = .ok (.aload_n 1, 1) := by decide +kernel
theorem dL_law_496 : decode cL_law 496 = .ok (.aload_n 0, 1) := by decide +kernel
theorem dL_law_497 : decode cL_law 497 = .ok (.iload_n 3, 1) := by decide +kernel
theorem dL_law_498 : decode cL_law 498 = .ok (.iconst 1, 1) := by decide +kernel
theorem dL_law_499 : decode cL_law 499 = .ok (.iadd, 1) := by decide +kernel
theorem dL_law_500 : decode cL_law 500 = .ok (.iaload, 1) := by decide +kernel
theorem dL_law_501 : decode cL_law 501 = .ok (.aload_n 0, 1) := by decide +kernel
theorem dL_law_502 : decode cL_law 502 = .ok (.iload_n 3, 1) := by decide +kernel
theorem dL_law_503 : decode cL_law 503 = .ok (.iconst 2, 1) := by decide +kernel
theorem dL_law_504 : decode cL_law 504 = .ok (.iadd, 1) := by decide +kernel
theorem dL_law_505 : decode cL_law 505 = .ok (.iaload, 1) := by decide +kernel
theorem dL_law_506 : decode cL_law 506 = .ok (.invokevirtual 61, 3) := by decide +kernel
theorem dL_law_509 : decode cL_law 509 = .ok (.aload_n 2, 1) := by decide +kernel
theorem dL_law_510 : decode cL_law 510 = .ok (.aload_n 0, 1) := by decide +kernel
theorem dL_law_511 : decode cL_law 511 = .ok (.iload_n 3, 1) := by decide +kernel
theorem dL_law_512 : decode cL_law 512 = .ok (.iconst 1, 1) := by decide +kernel
theorem dL_law_513 : decode cL_law 513 = .ok (.iadd, 1) := by decide +kernel
theorem dL_law_514 : decode cL_law 514 = .ok (.iaload, 1) := by decide +kernel
theorem dL_law_515 : decode cL_law 515 = .ok (.aload_n 0, 1) := by decide +kernel
theorem dL_law_516 : decode cL_law 516 = .ok (.iload_n 3, 1) := by decide +kernel
theorem dL_law_517 : decode cL_law 517 = .ok (.iconst 2, 1) := by decide +kernel
theorem dL_law_518 : decode cL_law 518 = .ok (.iadd, 1) := by decide +kernel
theorem dL_law_519 : decode cL_law 519 = .ok (.iaload, 1) := by decide +kernel
theorem dL_law_520 : decode cL_law 520 = .ok (.invokevirtual 64, 3) := by decide +kernel
theorem dL_law_523 : decode cL_law 523 = .ok (.if_icmp .eq 452, 3) := by decide +kernel
theorem dL_law_526 : decode cL_law 526 = .ok (.iconst 0, 1) := by decide +kernel
theorem dL_law_527 : decode cL_law 527 = .ok (.ireturn, 1) := by decide +kernel
theorem dL_law_528 : decode cL_law 528 = .ok (.aload_n 1, 1) := by decide +kernel
theorem dL_law_529 : decode cL_law 529 = .ok (.aload_n 0, 1) := by decide +kernel
theorem dL_law_530 : decode cL_law 530 = .ok (.iload_n 3, 1) := by decide +kernel
theorem dL_law_531 : decode cL_law 531 = .ok (.iconst 1, 1) := by decide +kernel
theorem dL_law_532 : decode cL_law 532 = .ok (.iadd, 1) := by decide +kernel
theorem dL_law_533 : decode cL_law 533 = .ok (.iaload, 1) := by decide +kernel
theorem dL_law_534 : decode cL_law 534 = .ok (.invokevirtual 65, 3) := by decide +kernel
theorem dL_law_537 : decode cL_law 537 = .ok (.aload_n 2, 1) := by decide +kernel
theorem dL_law_538 : decode cL_law 538 = .ok (.aload_n 0, 1) := by decide +kernel
theorem dL_law_539 : decode cL_law 539 = .ok (.iload_n 3, 1) := by decide +kernel
theorem dL_law_540 : decode cL_law 540 = .ok (.iconst 1, 1) := by decide +kernel
theorem dL_law_541 : decode cL_law 541 = .ok (.iadd, 1) := by decide +kernel
theorem dL_law_542 : decode cL_law 542 = .ok (.iaload, 1) := by decide +kernel
theorem dL_law_543 : decode cL_law 543 = .ok (.invokevirtual 68, 3) := by decide +kernel
theorem dL_law_546 : decode cL_law 546 = .ok (.if_icmp .eq 429, 3) := by decide +kernel
theorem dL_law_549 : decode cL_law 549 = .ok (.iconst 0, 1) := by decide +kernel
theorem dL_law_550 : decode cL_law 550 = .ok (.ireturn, 1) := by decide +kernel
theorem dL_law_551 : decode cL_law 551 = .ok (.aload_n 1, 1) := by decide +kernel
theorem dL_law_552 : decode cL_law 552 = .ok (.aload_n 0, 1) := by decide +kernel
theorem dL_law_553 : decode cL_law 553 = .ok (.iload_n 3, 1) := by decide +kernel
theorem dL_law_554 : decode cL_law 554 = .ok (.iconst 1, 1) := by decide +kernel
theorem dL_law_555 : decode cL_law 555 = .ok (.iadd, 1) := by decide +kernel
theorem dL_law_556 : decode cL_law 556 = .ok (.iaload, 1) := by decide +kernel
theorem dL_law_557 : decode cL_law 557 = .ok (.aload_n 0, 1) := by decide +kernel
theorem dL_law_558 : decode cL_law 558 = .ok (.iload_n 3, 1) := by decide +kernel
theorem dL_law_559 : decode cL_law 559 = .ok (.iconst 2, 1) := by decide +kernel
theorem dL_law_560 : decode cL_law 560 = .ok (.iadd, 1) := by decide +kernel
theorem dL_law_561 : decode cL_law 561 = .ok (.iaload, 1) := by decide +kernel
theorem dL_law_562 : decode cL_law 562 = .ok (.aload_n 0, 1) := by decide +kernel
theorem dL_law_563 : decode cL_law 563 = .ok (.iload_n 3, 1) := by decide +kernel
theorem dL_law_564 : decode cL_law 564 = .ok (.iconst 3, 1) := by decide +kernel
theorem dL_law_565 : decode cL_law 565 = .ok (.iadd, 1) := by decide +kernel
theorem dL_law_566 : decode cL_law 566 = .ok (.iaload, 1) := by decide +kernel
theorem dL_law_567 : decode cL_law 567 = .ok (.invokevirtual 69, 3) := by decide +kernel
theorem dL_law_570 : decode cL_law 570 = .ok (.aload_n 2, 1) := by decide +kernel
theorem dL_law_571 : decode cL_law 571 = .ok (.aload_n 0, 1) := by decide +kernel
theorem dL_law_572 : decode cL_law 572 = .ok (.iload_n 3, 1) := by decide +kernel
theorem dL_law_573 : decode cL_law 573 = .ok (.iconst 1, 1) := by decide +kernel
theorem dL_law_574 : decode cL_law 574 = .ok (.iadd, 1) := by decide +kernel
theorem dL_law_575 : decode cL_law 575 = .ok (.iaload, 1) := by decide +kernel
theorem dL_law_576 : decode cL_law 576 = .ok (.aload_n 0, 1) := by decide +kernel
theorem dL_law_577 : decode cL_law 577 = .ok (.iload_n 3, 1) := by decide +kernel
theorem dL_law_578 : decode cL_law 578 = .ok (.iconst 2, 1) := by decide +kernel
theorem dL_law_579 : decode cL_law 579 = .ok (.iadd, 1) := by decide +kernel
theorem dL_law_580 : decode cL_law 580 = .ok (.iaload, 1) := by decide +kernel
theorem dL_law_581 : decode cL_law 581 = .ok (.aload_n 0, 1) := by decide +kernel
theorem dL_law_582 : decode cL_law 582 = .ok (.iload_n 3, 1) := by decide +kernel
theorem dL_law_583 : decode cL_law 583 = .ok (.iconst 3, 1) := by decide +kernel
theorem dL_law_584 : decode cL_law 584 = .ok (.iadd, 1) := by decide +kernel
theorem dL_law_585 : decode cL_law 585 = .ok (.iaload, 1) := by decide +kernel
theorem dL_law_586 : decode cL_law 586 = .ok (.invokevirtual 72, 3) := by decide +kernel
theorem dL_law_589 : decode cL_law 589 = .ok (.if_icmp .eq 386, 3) := by decide +kernel
theorem dL_law_592 : decode cL_law 592 = .ok (.iconst 0, 1) := by decide +kernel
theorem dL_law_593 : decode cL_law 593 = .ok (.ireturn, 1) := by decide +kernel
theorem dL_law_594 : decode cL_law 594 = .ok (.aload_n 1, 1) := by decide +kernel
theorem dL_law_595 : decode cL_law 595 = .ok (.aload_n 0, 1) := by decide +kernel
theorem dL_law_596 : decode cL_law 596 = .ok (.iload_n 3, 1) := by decide +kernel
theorem dL_law_597 : decode cL_law 597 = .ok (.iconst 1, 1) := by decide +kernel
theorem dL_law_598 : decode cL_law 598 = .ok (.iadd, 1) := by decide +kernel
theorem dL_law_599 : decode cL_law 599 = .ok (.iaload, 1) := by decide +kernel
theorem dL_law_600 : decode cL_law 600 = .ok (.aload_n 0, 1) := by decide +kernel
theorem dL_law_601 : decode cL_law 601 = .ok (.iload_n 3, 1) := by decide +kernel
theorem dL_law_602 : decode cL_law 602 = .ok (.iconst 2, 1) := by decide +kernel
theorem dL_law_603 : decode cL_law 603 = .ok (.iadd, 1) := by decide +kernel
theorem dL_law_604 : decode cL_law 604 = .ok (.iaload, 1) := by decide +kernel
theorem dL_law_605 : decode cL_law 605 = .ok (.invokevirtual 73, 3) := by decide +kernel
theorem dL_law_608 : decode cL_law 608 = .ok (.aload_n 2, 1) := by decide +kernel
theorem dL_law_609 : decode cL_law 609 = .ok (.aload_n 0, 1) := by decide +kernel
theorem dL_law_610 : decode cL_law 610 = .ok (.iload_n 3, 1) := by decide +kernel
theorem dL_law_611 : decode cL_law 611 = .ok (.iconst 1, 1) := by decide +kernel
theorem dL_law_612 : decode cL_law 612 = .ok (.iadd, 1) := by decide +kernel
theorem dL_law_613 : decode cL_law 613 = .ok (.iaload, 1) := by decide +kernel
theorem dL_law_614 : decode cL_law 614 = .ok (.aload_n 0, 1) := by decide +kernel
theorem dL_law_615 : decode cL_law 615 = .ok (.iload_n 3, 1) := by decide +kernel
theorem dL_law_616 : decode cL_law 616 = .ok (.iconst 2, 1) := by decide +kernel
theorem dL_law_617 : decode cL_law 617 = .ok (.iadd, 1) := by decide +kernel
theorem dL_law_618 : decode cL_law 618 = .ok (.iaload, 1) := by decide +kernel
theorem dL_law_619 : decode cL_law 619 = .ok (.invokevirtual 76, 3) := by decide +kernel
theorem dL_law_622 : decode cL_law 622 = .ok (.if_icmp .eq 353, 3) := by decide +kernel
theorem dL_law_625 : decode cL_law 625 = .ok (.iconst 0, 1) := by decide +kernel
theorem dL_law_626 : decode cL_law 626 = .ok (.ireturn, 1) := by decide +kernel
theorem dL_law_627 : decode cL_law 627 = .ok (.aload_n 1, 1) := by decide +kernel
theorem dL_law_628 : decode cL_law 628 = .ok (.aload_n 0, 1) := by decide +kernel
theorem dL_law_629 : decode cL_law 629 = .ok (.iload_n 3, 1) := by decide +kernel
theorem dL_law_630 : decode cL_law 630 = .ok (.iconst 1, 1) := by decide +kernel
theorem dL_law_631 : decode cL_law 631 = .ok (.iadd, 1) := by decide +kernel
theorem dL_law_632 : decode cL_law 632 = .ok (.iaload, 1) := by decide +kernel
theorem dL_law_633 : decode cL_law 633 = .ok (.aload_n 0, 1) := by decide +kernel
theorem dL_law_634 : decode cL_law 634 = .ok (.iload_n 3, 1) := by decide +kernel
theorem dL_law_635 : decode cL_law 635 = .ok (.iconst 2, 1) := by decide +kernel
theorem dL_law_636 : decode cL_law 636 = .ok (.iadd, 1) := by decide +kernel
theorem dL_law_637 : decode cL_law 637 = .ok (.iaload, 1) := by decide +kernel
theorem dL_law_638 : decode cL_law 638 = .ok (.invokevirtual 77, 3) := by decide +kernel
theorem dL_law_641 : decode cL_law 641 = .ok (.aload_n 2, 1) := by decide +kernel
theorem dL_law_642 : decode cL_law 642 = .ok (.aload_n 0, 1) := by decide +kernel
theorem dL_law_643 : decode cL_law 643 = .ok (.iload_n 3, 1) := by decide +kernel
theorem dL_law_644 : decode cL_law 644 = .ok (.iconst 1, 1) := by decide +kernel
theorem dL_law_645 : decode cL_law 645 = .ok (.iadd, 1) := by decide +kernel
theorem dL_law_646 : decode cL_law 646 = .ok (.iaload, 1) := by decide +kernel
theorem dL_law_647 : decode cL_law 647 = .ok (.aload_n 0, 1) := by decide +kernel
theorem dL_law_648 : decode cL_law 648 = .ok (.iload_n 3, 1) := by decide +kernel
theorem dL_law_649 : decode cL_law 649 = .ok (.iconst 2, 1) := by decide +kernel
theorem dL_law_650 : decode cL_law 650 = .ok (.iadd, 1) := by decide +kernel
theorem dL_law_651 : decode cL_law 651 = .ok (.iaload, 1) := by decide +kernel
theorem dL_law_652 : decode cL_law 652 = .ok (.invokevirtual 80, 3) := by decide +kernel
theorem dL_law_655 : decode cL_law 655 = .ok (.if_icmp .eq 320, 3) := by decide +kernel
theorem dL_law_658 : decode cL_law 658 = .ok (.iconst 0, 1) := by decide +kernel
theorem dL_law_659 : decode cL_law 659 = .ok (.ireturn, 1) := by decide +kernel
theorem dL_law_660 : decode cL_law 660 = .ok (.aload_n 1, 1) := by decide +kernel
theorem dL_law_661 : decode cL_law 661 = .ok (.aload_n 0, 1) := by decide +kernel
theorem dL_law_662 : decode cL_law 662 = .ok (.iload_n 3, 1) := by decide +kernel
theorem dL_law_663 : decode cL_law 663 = .ok (.iconst 1, 1) := by decide +kernel
theorem dL_law_664 : decode cL_law 664 = .ok (.iadd, 1) := by decide +kernel
theorem dL_law_665 : decode cL_law 665 = .ok (.iaload, 1) := by decide +kernel
theorem dL_law_666 : decode cL_law 666 = .ok (.invokevirtual 81, 3) := by decide +kernel
theorem dL_law_669 : decode cL_law 669 = .ok (.aload_n 2, 1) := by decide +kernel
theorem dL_law_670 : decode cL_law 670 = .ok (.aload_n 0, 1) := by decide +kernel
theorem dL_law_671 : decode cL_law 671 = .ok (.iload_n 3, 1) := by decide +kernel
theorem dL_law_672 : decode cL_law 672 = .ok (.iconst 1, 1) := by decide +kernel
theorem dL_law_673 : decode cL_law 673 = .ok (.iadd, 1) := by decide +kernel
theorem dL_law_674 : decode cL_law 674 = .ok (.iaload, 1) := by decide +kernel
theorem dL_law_675 : decode cL_law 675 = .ok (.invokevirtual 84, 3) := by decide +kernel
theorem dL_law_678 : decode cL_law 678 = .ok (.if_icmp .eq 297, 3) := by decide +kernel
theorem dL_law_681 : decode cL_law 681 = .ok (.iconst 0, 1) := by decide +kernel
theorem dL_law_682 : decode cL_law 682 = .ok (.ireturn, 1) := by decide +kernel
theorem dL_law_683 : decode cL_law 683 = .ok (.aload_n 1, 1) := by decide +kernel
theorem dL_law_684 : decode cL_law 684 = .ok (.aload_n 0, 1) := by decide +kernel
theorem dL_law_685 : decode cL_law 685 = .ok (.iload_n 3, 1) := by decide +kernel
theorem dL_law_686 : decode cL_law 686 = .ok (.iconst 1, 1) := by decide +kernel
theorem dL_law_687 : decode cL_law 687 = .ok (.iadd, 1) := by decide +kernel
theorem dL_law_688 : decode cL_law 688 = .ok (.iaload, 1) := by decide +kernel
theorem dL_law_689 : decode cL_law 689 = .ok (.invokevirtual 85, 3) := by decide +kernel
theorem dL_law_692 : decode cL_law 692 = .ok (.aload_n 2, 1) := by decide +kernel
theorem dL_law_693 : decode cL_law 693 = .ok (.aload_n 0, 1) := by decide +kernel
theorem dL_law_694 : decode cL_law 694 = .ok (.iload_n 3, 1) := by decide +kernel
theorem dL_law_695 : decode cL_law 695 = .ok (.iconst 1, 1) := by decide +kernel
theorem dL_law_696 : decode cL_law 696 = .ok (.iadd, 1) := by decide +kernel
theorem dL_law_697 : decode cL_law 697 = .ok (.iaload, 1) := by decide +kernel
theorem dL_law_698 : decode cL_law 698 = .ok (.invokevirtual 88, 3) := by decide +kernel
theorem dL_law_701 : decode cL_law 701 = .ok (.if_icmp .eq 274, 3) := by decide +kernel
theorem dL_law_704 : decode cL_law 704 = .ok (.iconst 0, 1) := by decide +kernel
theorem dL_law_705 : decode cL_law 705 = .ok (.ireturn, 1) := by decide +kernel
theorem dL_law_706 : decode cL_law 706 = .ok (.aload_n 1, 1) := by decide +kernel
theorem dL_law_707 : decode cL_law 707 = .ok (.aload_n 0, 1) := by decide +kernel
theorem dL_law_708 : decode cL_law 708 = .ok (.iload_n 3, 1) := by decide +kernel
theorem dL_law_709 : decode cL_law 709 = .ok (.iconst 1, 1) := by decide +kernel
theorem dL_law_710 : decode cL_law 710 = .ok (.iadd, 1) := by decide +kernel
theorem dL_law_711 : decode cL_law 711 = .ok (.iaload, 1) := by decide +kernel
theorem dL_law_712 : decode cL_law 712 = .ok (.aload_n 0, 1) := by decide +kernel
theorem dL_law_713 : decode cL_law 713 = .ok (.iload_n 3, 1) := by decide +kernel
theorem dL_law_714 : decode cL_law 714 = .ok (.iconst 2, 1) := by decide +kernel
theorem dL_law_715 : decode cL_law 715 = .ok (.iadd, 1) := by decide +kernel
theorem dL_law_716 : decode cL_law 716 = .ok (.iaload, 1) := by decide +kernel
theorem dL_law_717 : decode cL_law 717 = .ok (.invokevirtual 89, 3) := by decide +kernel
theorem dL_law_720 : decode cL_law 720 = .ok (.aload_n 2, 1) := by decide +kernel
theorem dL_law_721 : decode cL_law 721 = .ok (.aload_n 0, 1) := by decide +kernel
theorem dL_law_722 : decode cL_law 722 = .ok (.iload_n 3, 1) := by decide +kernel
theorem dL_law_723 : decode cL_law 723 = .ok (.iconst 1, 1) := by decide +kernel
theorem dL_law_724 : decode cL_law 724 = .ok (.iadd, 1) := by decide +kernel
theorem dL_law_725 : decode cL_law 725 = .ok (.iaload, 1) := by decide +kernel
theorem dL_law_726 : decode cL_law 726 = .ok (.aload_n 0, 1) := by decide +kernel
theorem dL_law_727 : decode cL_law 727 = .ok (.iload_n 3, 1) := by decide +kernel
theorem dL_law_728 : decode cL_law 728 = .ok (.iconst 2, 1) := by decide +kernel
theorem dL_law_729 : decode cL_law 729 = .ok (.iadd, 1) := by decide +kernel
theorem dL_law_730 : decode cL_law 730 = .ok (.iaload, 1) := by decide +kernel
theorem dL_law_731 : decode cL_law 731 = .ok (.invokevirtual 92, 3) := by decide +kernel
theorem dL_law_734 : decode cL_law 734 = .ok (.if_icmp .eq 241, 3) := by decide +kernel
theorem dL_law_737 : decode cL_law 737 = .ok (.iconst 0, 1) := by decide +kernel
theorem dL_law_738 : decode cL_law 738 = .ok (.ireturn, 1) := by decide +kernel
theorem dL_law_739 : decode cL_law 739 = .ok (.aload_n 1, 1) := by decide +kernel
theorem dL_law_740 : decode cL_law 740 = .ok (.aload_n 0, 1) := by decide +kernel
theorem dL_law_741 : decode cL_law 741 = .ok (.iload_n 3, 1) := by decide +kernel
theorem dL_law_742 : decode cL_law 742 = .ok (.iconst 1, 1) := by decide +kernel
theorem dL_law_743 : decode cL_law 743 = .ok (.iadd, 1) := by decide +kernel
theorem dL_law_744 : decode cL_law 744 = .ok (.iaload, 1) := by decide +kernel
theorem dL_law_745 : decode cL_law 745 = .ok (.invokevirtual 93, 3) := by decide +kernel
theorem dL_law_748 : decode cL_law 748 = .ok (.aload_n 2, 1) := by decide +kernel
theorem dL_law_749 : decode cL_law 749 = .ok (.aload_n 0, 1) := by decide +kernel
theorem dL_law_750 : decode cL_law 750 = .ok (.iload_n 3, 1) := by decide +kernel
theorem dL_law_751 : decode cL_law 751 = .ok (.iconst 1, 1) := by decide +kernel
theorem dL_law_752 : decode cL_law 752 = .ok (.iadd, 1) := by decide +kernel
theorem dL_law_753 : decode cL_law 753 = .ok (.iaload, 1) := by decide +kernel
theorem dL_law_754 : decode cL_law 754 = .ok (.invokevirtual 96, 3) := by decide +kernel
theorem dL_law_757 : decode cL_law 757 = .ok (.if_icmp .eq 218, 3) := by decide +kernel
theorem dL_law_760 : decode cL_law 760 = .ok (.iconst 0, 1) := by decide +kernel
theorem dL_law_761 : decode cL_law 761 = .ok (.ireturn, 1) := by decide +kernel
theorem dL_law_762 : decode cL_law 762 = .ok (.aload_n 1, 1) := by decide +kernel
theorem dL_law_763 : decode cL_law 763 = .ok (.aload_n 0, 1) := by decide +kernel
theorem dL_law_764 : decode cL_law 764 = .ok (.iload_n 3, 1) := by decide +kernel
theorem dL_law_765 : decode cL_law 765 = .ok (.iconst 1, 1) := by decide +kernel
theorem dL_law_766 : decode cL_law 766 = .ok (.iadd, 1) := by decide +kernel
theorem dL_law_767 : decode cL_law 767 = .ok (.iaload, 1) := by decide +kernel
theorem dL_law_768 : decode cL_law 768 = .ok (.invokevirtual 97, 3) := by decide +kernel
theorem dL_law_771 : decode cL_law 771 = .ok (.aload_n 2, 1) := by decide +kernel
theorem dL_law_772 : decode cL_law 772 = .ok (.aload_n 0, 1) := by decide +kernel
theorem dL_law_773 : decode cL_law 773 = .ok (.iload_n 3, 1) := by decide +kernel
theorem dL_law_774 : decode cL_law 774 = .ok (.iconst 1, 1) := by decide +kernel
theorem dL_law_775 : decode cL_law 775 = .ok (.iadd, 1) := by decide +kernel
theorem dL_law_776 : decode cL_law 776 = .ok (.iaload, 1) := by decide +kernel
theorem dL_law_777 : decode cL_law 777 = .ok (.invokevirtual 100, 3) := by decide +kernel
theorem dL_law_780 : decode cL_law 780 = .ok (.if_icmp .eq 195, 3) := by decide +kernel
theorem dL_law_783 : decode cL_law 783 = .ok (.iconst 0, 1) := by decide +kernel
theorem dL_law_784 : decode cL_law 784 = .ok (.ireturn, 1) := by decide +kernel
theorem dL_law_785 : decode cL_law 785 = .ok (.aload_n 1, 1) := by decide +kernel
theorem dL_law_786 : decode cL_law 786 = .ok (.invokevirtual 101, 3) := by decide +kernel
theorem dL_law_789 : decode cL_law 789 = .ok (.aload_n 2, 1) := by decide +kernel
theorem dL_law_790 : decode cL_law 790 = .ok (.invokevirtual 104, 3) := by decide +kernel
theorem dL_law_793 : decode cL_law 793 = .ok (.if_icmp .eq 182, 3) := by decide +kernel
theorem dL_law_796 : decode cL_law 796 = .ok (.iconst 0, 1) := by decide +kernel
theorem dL_law_797 : decode cL_law 797 = .ok (.ireturn, 1) := by decide +kernel
theorem dL_law_798 : decode cL_law 798 = .ok (.aload_n 1, 1) := by decide +kernel
theorem dL_law_799 : decode cL_law 799 = .ok (.aload_n 0, 1) := by decide +kernel
theorem dL_law_800 : decode cL_law 800 = .ok (.iload_n 3, 1) := by decide +kernel
theorem dL_law_801 : decode cL_law 801 = .ok (.iconst 1, 1) := by decide +kernel
theorem dL_law_802 : decode cL_law 802 = .ok (.iadd, 1) := by decide +kernel
theorem dL_law_803 : decode cL_law 803 = .ok (.iaload, 1) := by decide +kernel
theorem dL_law_804 : decode cL_law 804 = .ok (.invokevirtual 105, 3) := by decide +kernel
theorem dL_law_807 : decode cL_law 807 = .ok (.aload_n 2, 1) := by decide +kernel
theorem dL_law_808 : decode cL_law 808 = .ok (.aload_n 0, 1) := by decide +kernel
theorem dL_law_809 : decode cL_law 809 = .ok (.iload_n 3, 1) := by decide +kernel
theorem dL_law_810 : decode cL_law 810 = .ok (.iconst 1, 1) := by decide +kernel
theorem dL_law_811 : decode cL_law 811 = .ok (.iadd, 1) := by decide +kernel
theorem dL_law_812 : decode cL_law 812 = .ok (.iaload, 1) := by decide +kernel
theorem dL_law_813 : decode cL_law 813 = .ok (.invokevirtual 108, 3) := by decide +kernel
theorem dL_law_816 : decode cL_law 816 = .ok (.if_icmp .eq 159, 3) := by decide +kernel
theorem dL_law_819 : decode cL_law 819 = .ok (.iconst 0, 1) := by decide +kernel
theorem dL_law_820 : decode cL_law 820 = .ok (.ireturn, 1) := by decide +kernel
theorem dL_law_821 : decode cL_law 821 = .ok (.aload_n 1, 1) := by decide +kernel
theorem dL_law_822 : decode cL_law 822 = .ok (.aload_n 0, 1) := by decide +kernel
theorem dL_law_823 : decode cL_law 823 = .ok (.iload_n 3, 1) := by decide +kernel
theorem dL_law_824 : decode cL_law 824 = .ok (.iconst 1, 1) := by decide +kernel
theorem dL_law_825 : decode cL_law 825 = .ok (.iadd, 1) := by decide +kernel
theorem dL_law_826 : decode cL_law 826 = .ok (.iaload, 1) := by decide +kernel
theorem dL_law_827 : decode cL_law 827 = .ok (.invokevirtual 109, 3) := by decide +kernel
theorem dL_law_830 : decode cL_law 830 = .ok (.aload_n 2, 1) := by decide +kernel
theorem dL_law_831 : decode cL_law 831 = .ok (.aload_n 0, 1) := by decide +kernel
theorem dL_law_832 : decode cL_law 832 = .ok (.iload_n 3, 1) := by decide +kernel
theorem dL_law_833 : decode cL_law 833 = .ok (.iconst 1, 1) := by decide +kernel
theorem dL_law_834 : decode cL_law 834 = .ok (.iadd, 1) := by decide +kernel
theorem dL_law_835 : decode cL_law 835 = .ok (.iaload, 1) := by decide +kernel
theorem dL_law_836 : decode cL_law 836 = .ok (.invokevirtual 112, 3) := by decide +kernel
theorem dL_law_839 : decode cL_law 839 = .ok (.if_icmp .eq 136, 3) := by decide +kernel
theorem dL_law_842 : decode cL_law 842 = .ok (.iconst 0, 1) := by decide +kernel
theorem dL_law_843 : decode cL_law 843 = .ok (.ireturn, 1) := by decide +kernel
theorem dL_law_844 : decode cL_law 844 = .ok (.aload_n 1, 1) := by decide +kernel
theorem dL_law_845 : decode cL_law 845 = .ok (.aload_n 0, 1) := by decide +kernel
theorem dL_law_846 : decode cL_law 846 = .ok (.iload_n 3, 1) := by decide +kernel
theorem dL_law_847 : decode cL_law 847 = .ok (.iconst 1, 1) := by decide +kernel
theorem dL_law_848 : decode cL_law 848 = .ok (.iadd, 1) := by decide +kernel
theorem dL_law_849 : decode cL_law 849 = .ok (.iaload, 1) := by decide +kernel
theorem dL_law_850 : decode cL_law 850 = .ok (.invokevirtual 113, 3) := by decide +kernel
theorem dL_law_853 : decode cL_law 853 = .ok (.aload_n 2, 1) := by decide +kernel
theorem dL_law_854 : decode cL_law 854 = .ok (.aload_n 0, 1) := by decide +kernel
theorem dL_law_855 : decode cL_law 855 = .ok (.iload_n 3, 1) := by decide +kernel
theorem dL_law_856 : decode cL_law 856 = .ok (.iconst 1, 1) := by decide +kernel
theorem dL_law_857 : decode cL_law 857 = .ok (.iadd, 1) := by decide +kernel
theorem dL_law_858 : decode cL_law 858 = .ok (.iaload, 1) := by decide +kernel
theorem dL_law_859 : decode cL_law 859 = .ok (.invokevirtual 116, 3) := by decide +kernel
theorem dL_law_862 : decode cL_law 862 = .ok (.if_icmp .eq 113, 3) := by decide +kernel
theorem dL_law_865 : decode cL_law 865 = .ok (.iconst 0, 1) := by decide +kernel
theorem dL_law_866 : decode cL_law 866 = .ok (.ireturn, 1) := by decide +kernel
theorem dL_law_867 : decode cL_law 867 = .ok (.aload_n 1, 1) := by decide +kernel
theorem dL_law_868 : decode cL_law 868 = .ok (.aload_n 0, 1) := by decide +kernel
theorem dL_law_869 : decode cL_law 869 = .ok (.iload_n 3, 1) := by decide +kernel
theorem dL_law_870 : decode cL_law 870 = .ok (.iconst 1, 1) := by decide +kernel
theorem dL_law_871 : decode cL_law 871 = .ok (.iadd, 1) := by decide +kernel
theorem dL_law_872 : decode cL_law 872 = .ok (.iaload, 1) := by decide +kernel
theorem dL_law_873 : decode cL_law 873 = .ok (.invokevirtual 117, 3) := by decide +kernel
theorem dL_law_876 : decode cL_law 876 = .ok (.aload_n 2, 1) := by decide +kernel
theorem dL_law_877 : decode cL_law 877 = .ok (.aload_n 0, 1) := by decide +kernel
theorem dL_law_878 : decode cL_law 878 = .ok (.iload_n 3, 1) := by decide +kernel
theorem dL_law_879 : decode cL_law 879 = .ok (.iconst 1, 1) := by decide +kernel
theorem dL_law_880 : decode cL_law 880 = .ok (.iadd, 1) := by decide +kernel
theorem dL_law_881 : decode cL_law 881 = .ok (.iaload, 1) := by decide +kernel
theorem dL_law_882 : decode cL_law 882 = .ok (.invokevirtual 120, 3) := by decide +kernel
theorem dL_law_885 : decode cL_law 885 = .ok (.if_icmp .eq 90, 3) := by decide +kernel
theorem dL_law_888 : decode cL_law 888 = .ok (.iconst 0, 1) := by decide +kernel
theorem dL_law_889 : decode cL_law 889 = .ok (.ireturn, 1) := by decide +kernel
theorem dL_law_890 : decode cL_law 890 = .ok (.aload_n 1, 1) := by decide +kernel
theorem dL_law_891 : decode cL_law 891 = .ok (.invokevirtual 121, 3) := by decide +kernel
theorem dL_law_894 : decode cL_law 894 = .ok (.aload_n 2, 1) := by decide +kernel
theorem dL_law_895 : decode cL_law 895 = .ok (.invokevirtual 124, 3) := by decide +kernel
theorem dL_law_898 : decode cL_law 898 = .ok (.if_icmp .eq 77, 3) := by decide +kernel
theorem dL_law_901 : decode cL_law 901 = .ok (.iconst 0, 1) := by decide +kernel
theorem dL_law_902 : decode cL_law 902 = .ok (.ireturn, 1) := by decide +kernel
theorem dL_law_903 : decode cL_law 903 = .ok (.aload_n 1, 1) := by decide +kernel
theorem dL_law_904 : decode cL_law 904 = .ok (.aload_n 0, 1) := by decide +kernel
theorem dL_law_905 : decode cL_law 905 = .ok (.iload_n 3, 1) := by decide +kernel
theorem dL_law_906 : decode cL_law 906 = .ok (.iconst 1, 1) := by decide +kernel
theorem dL_law_907 : decode cL_law 907 = .ok (.iadd, 1) := by decide +kernel
theorem dL_law_908 : decode cL_law 908 = .ok (.iaload, 1) := by decide +kernel
theorem dL_law_909 : decode cL_law 909 = .ok (.invokevirtual 125, 3) := by decide +kernel
theorem dL_law_912 : decode cL_law 912 = .ok (.aload_n 2, 1) := by decide +kernel
theorem dL_law_913 : decode cL_law 913 = .ok (.aload_n 0, 1) := by decide +kernel
theorem dL_law_914 : decode cL_law 914 = .ok (.iload_n 3, 1) := by decide +kernel
theorem dL_law_915 : decode cL_law 915 = .ok (.iconst 1, 1) := by decide +kernel
theorem dL_law_916 : decode cL_law 916 = .ok (.iadd, 1) := by decide +kernel
theorem dL_law_917 : decode cL_law 917 = .ok (.iaload, 1) := by decide +kernel
theorem dL_law_918 : decode cL_law 918 = .ok (.invokevirtual 128, 3) := by decide +kernel
theorem dL_law_921 : decode cL_law 921 = .ok (.if_icmp .eq 54, 3) := by decide +kernel
theorem dL_law_924 : decode cL_law 924 = .ok (.iconst 0, 1) := by decide +kernel
theorem dL_law_925 : decode cL_law 925 = .ok (.ireturn, 1) := by decide +kernel
theorem dL_law_926 : decode cL_law 926 = .ok (.aload_n 1, 1) := by decide +kernel
theorem dL_law_927 : decode cL_law 927 = .ok (.invokevirtual 129, 3) := by decide +kernel
theorem dL_law_930 : decode cL_law 930 = .ok (.aload_n 2, 1) := by decide +kernel
theorem dL_law_931 : decode cL_law 931 = .ok (.invokevirtual 132, 3) := by decide +kernel
theorem dL_law_934 : decode cL_law 934 = .ok (.if_icmp .eq 41, 3) := by decide +kernel
theorem dL_law_937 : decode cL_law 937 = .ok (.iconst 0, 1) := by decide +kernel
theorem dL_law_938 : decode cL_law 938 = .ok (.ireturn, 1) := by decide +kernel
theorem dL_law_939 : decode cL_law 939 = .ok (.aload_n 1, 1) := by decide +kernel
theorem dL_law_940 : decode cL_law 940 = .ok (.aload_n 0, 1) := by decide +kernel
theorem dL_law_941 : decode cL_law 941 = .ok (.iload_n 3, 1) := by decide +kernel
theorem dL_law_942 : decode cL_law 942 = .ok (.iconst 1, 1) := by decide +kernel
theorem dL_law_943 : decode cL_law 943 = .ok (.iadd, 1) := by decide +kernel
theorem dL_law_944 : decode cL_law 944 = .ok (.iaload, 1) := by decide +kernel
theorem dL_law_945 : decode cL_law 945 = .ok (.invokevirtual 133, 3) := by decide +kernel
theorem dL_law_948 : decode cL_law 948 = .ok (.aload_n 2, 1) := by decide +kernel
theorem dL_law_949 : decode cL_law 949 = .ok (.aload_n 0, 1) := by decide +kernel
theorem dL_law_950 : decode cL_law 950 = .ok (.iload_n 3, 1) := by decide +kernel
theorem dL_law_951 : decode cL_law 951 = .ok (.iconst 1, 1) := by decide +kernel
theorem dL_law_952 : decode cL_law 952 = .ok (.iadd, 1) := by decide +kernel
theorem dL_law_953 : decode cL_law 953 = .ok (.iaload, 1) := by decide +kernel
theorem dL_law_954 : decode cL_law 954 = .ok (.invokevirtual 136, 3) := by decide +kernel
theorem dL_law_957 : decode cL_law 957 = .ok (.if_icmp .eq 18, 3) := by decide +kernel
theorem dL_law_960 : decode cL_law 960 = .ok (.iconst 0, 1) := by decide +kernel
theorem dL_law_961 : decode cL_law 961 = .ok (.ireturn, 1) := by decide +kernel
theorem dL_law_962 : decode cL_law 962 = .ok (.aload_n 1, 1) := by decide +kernel
theorem dL_law_963 : decode cL_law 963 = .ok (.invokevirtual 137, 3) := by decide +kernel
theorem dL_law_966 : decode cL_law 966 = .ok (.aload_n 2, 1) := by decide +kernel
theorem dL_law_967 : decode cL_law 967 = .ok (.invokevirtual 140, 3) := by decide +kernel
theorem dL_law_970 : decode cL_law 970 = .ok (.if_icmp .eq 5, 3) := by decide +kernel
theorem dL_law_973 : decode cL_law 973 = .ok (.iconst 0, 1) := by decide +kernel
theorem dL_law_974 : decode cL_law 974 = .ok (.ireturn, 1) := by decide +kernel
theorem dL_law_975 : decode cL_law 975 = .ok (.iinc 3 4, 3) := by decide +kernel
theorem dL_law_978 : decode cL_law 978 = .ok (.goto (-960), 3) := by decide +kernel
theorem dL_law_981 : decode cL_law 981 = .ok (.iconst 1, 1) := by decide +kernel
theorem dL_law_982 : decode cL_law 982 = .ok (.ireturn, 1) := by decide +kernel
end
section
theorem dX7_init_0 : decode cX7_init 0 = .ok (.aload_n 0, 1) := by decide +kernel
theorem dX7_init_1 : decode cX7_init 1 = .ok (.invokespecial 1, 3) := by decide +kernel
theorem dX7_init_4 : decode cX7_init 4 = .ok (.aload_n 0, 1) := by decide +kernel
theorem dX7_init_5 : decode cX7_init 5 = .ok (.sipush 368, 3) := by decide +kernel
theorem dX7_init_8 : decode cX7_init 8 = .ok (.newarray .int, 2) := by decide +kernel
theorem dX7_init_10 : decode cX7_init 10 = .ok (.putfield 7, 3) := by decide +kernel
theorem dX7_init_13 : decode cX7_init 13 = .ok (.aload_n 0, 1) := by decide +kernel
theorem dX7_init_14 : decode cX7_init 14 = .ok (.sipush 1472, 3) := by decide +kernel
theorem dX7_init_17 : decode cX7_init 17 = .ok (.newarray .int, 2) := by decide +kernel
theorem dX7_init_19 : decode cX7_init 19 = .ok (.putfield 13, 3) := by decide +kernel
theorem dX7_init_22 : decode cX7_init 22 = .ok (.aload_n 0, 1) := by decide +kernel
theorem dX7_init_23 : decode cX7_init 23 = .ok (.sipush 368, 3) := by decide +kernel
theorem dX7_init_26 : decode cX7_init 26 = .ok (.newarray .int, 2) := by decide +kernel
theorem dX7_init_28 : decode cX7_init 28 = .ok (.putfield 16, 3) := by decide +kernel
theorem dX7_init_31 : decode cX7_init 31 = .ok (.aload_n 0, 1) := by decide +kernel
theorem dX7_init_32 : decode cX7_init 32 = .ok (.sipush 368, 3) := by decide +kernel
theorem dX7_init_35 : decode cX7_init 35 = .ok (.newarray .int, 2) := by decide +kernel
theorem dX7_init_37 : decode cX7_init 37 = .ok (.putfield 19, 3) := by decide +kernel
theorem dX7_init_40 : decode cX7_init 40 = .ok (.aload_n 0, 1) := by decide +kernel
theorem dX7_init_41 : decode cX7_init 41 = .ok (.bipush 60, 2) := by decide +kernel
theorem dX7_init_43 : decode cX7_init 43 = .ok (.newarray .char, 2) := by decide +kernel
theorem dX7_init_45 : decode cX7_init 45 = .ok (.putfield 22, 3) := by decide +kernel
theorem dX7_init_48 : decode cX7_init 48 = .ok (.aload_n 0, 1) := by decide +kernel
theorem dX7_init_49 : decode cX7_init 49 = .ok (.iconst 3, 1) := by decide +kernel
theorem dX7_init_50 : decode cX7_init 50 = .ok (.newarray .int, 2) := by decide +kernel
theorem dX7_init_52 : decode cX7_init 52 = .ok (.putfield 26, 3) := by decide +kernel
theorem dX7_init_55 : decode cX7_init 55 = .ok (.aload_n 0, 1) := by decide +kernel
theorem dX7_init_56 : decode cX7_init 56 = .ok (.getfield 7, 3) := by decide +kernel
theorem dX7_init_59 : decode cX7_init 59 = .ok (.iconst 0, 1) := by decide +kernel
theorem dX7_init_60 : decode cX7_init 60 = .ok (.bipush 100, 2) := by decide +kernel
theorem dX7_init_62 : decode cX7_init 62 = .ok (.iastore, 1) := by decide +kernel
theorem dX7_init_63 : decode cX7_init 63 = .ok (.aload_n 0, 1) := by decide +kernel
theorem dX7_init_64 : decode cX7_init 64 = .ok (.getfield 7, 3) := by decide +kernel
theorem dX7_init_67 : decode cX7_init 67 = .ok (.iconst 1, 1) := by decide +kernel
theorem dX7_init_68 : decode cX7_init 68 = .ok (.bipush 20, 2) := by decide +kernel
theorem dX7_init_70 : decode cX7_init 70 = .ok (.iastore, 1) := by decide +kernel
theorem dX7_init_71 : decode cX7_init 71 = .ok (.aload_n 0, 1) := by decide +kernel
theorem dX7_init_72 : decode cX7_init 72 = .ok (.getfield 7, 3) := by decide +kernel
theorem dX7_init_75 : decode cX7_init 75 = .ok (.iconst 2, 1) := by decide +kernel
theorem dX7_init_76 : decode cX7_init 76 = .ok (.bipush 100, 2) := by decide +kernel
theorem dX7_init_78 : decode cX7_init 78 = .ok (.iastore, 1) := by decide +kernel
theorem dX7_init_79 : decode cX7_init 79 = .ok (.aload_n 0, 1) := by decide +kernel
theorem dX7_init_80 : decode cX7_init 80 = .ok (.getfield 7, 3) := by decide +kernel
theorem dX7_init_83 : decode cX7_init 83 = .ok (.iconst 3, 1) := by decide +kernel
theorem dX7_init_84 : decode cX7_init 84 = .ok (.bipush 20, 2) := by decide +kernel
theorem dX7_init_86 : decode cX7_init 86 = .ok (.iastore, 1) := by decide +kernel
theorem dX7_init_87 : decode cX7_init 87 = .ok (.aload_n 0, 1) := by decide +kernel
theorem dX7_init_88 : decode cX7_init 88 = .ok (.getfield 7, 3) := by decide +kernel
theorem dX7_init_91 : decode cX7_init 91 = .ok (.iconst 4, 1) := by decide +kernel
theorem dX7_init_92 : decode cX7_init 92 = .ok (.bipush 50, 2) := by decide +kernel
theorem dX7_init_94 : decode cX7_init 94 = .ok (.iastore, 1) := by decide +kernel
theorem dX7_init_95 : decode cX7_init 95 = .ok (.aload_n 0, 1) := by decide +kernel
theorem dX7_init_96 : decode cX7_init 96 = .ok (.getfield 7, 3) := by decide +kernel
theorem dX7_init_99 : decode cX7_init 99 = .ok (.iconst 5, 1) := by decide +kernel
theorem dX7_init_100 : decode cX7_init 100 = .ok (.bipush 60, 2) := by decide +kernel
theorem dX7_init_102 : decode cX7_init 102 = .ok (.iastore, 1) := by decide +kernel
theorem dX7_init_103 : decode cX7_init 103 = .ok (.aload_n 0, 1) := by decide +kernel
theorem dX7_init_104 : decode cX7_init 104 = .ok (.getfield 7, 3) := by decide +kernel
theorem dX7_init_107 : decode cX7_init 107 = .ok (.bipush 6, 2) := by decide +kernel
theorem dX7_init_109 : decode cX7_init 109 = .ok (.bipush 10, 2) := by decide +kernel
theorem dX7_init_111 : decode cX7_init 111 = .ok (.iastore, 1) := by decide +kernel
theorem dX7_init_112 : decode cX7_init 112 = .ok (.aload_n 0, 1) := by decide +kernel
theorem dX7_init_113 : decode cX7_init 113 = .ok (.getfield 7, 3) := by decide +kernel
theorem dX7_init_116 : decode cX7_init 116 = .ok (.bipush 7, 2) := by decide +kernel
theorem dX7_init_118 : decode cX7_init 118 = .ok (.sipush 200, 3) := by decide +kernel
theorem dX7_init_121 : decode cX7_init 121 = .ok (.iastore, 1) := by decide +kernel
theorem dX7_init_122 : decode cX7_init 122 = .ok (.aload_n 0, 1) := by decide +kernel
theorem dX7_init_123 : decode cX7_init 123 = .ok (.getfield 7, 3) := by decide +kernel
theorem dX7_init_126 : decode cX7_init 126 = .ok (.bipush 8, 2) := by decide +kernel
theorem dX7_init_128 : decode cX7_init 128 = .ok (.bipush 10, 2) := by decide +kernel
theorem dX7_init_130 : decode cX7_init 130 = .ok (.iastore, 1) := by decide +kernel
theorem dX7_init_131 : decode cX7_init 131 = .ok (.aload_n 0, 1) := by decide +kernel
theorem dX7_init_132 : decode cX7_init 132 = .ok (.getfield 7, 3) := by decide +kernel
theorem dX7_init_135 : decode cX7_init 135 = .ok (.bipush 9, 2) := by decide +kernel
theorem dX7_init_137 : decode cX7_init 137 = .ok (.iconst 5, 1) := by decide +kernel
theorem dX7_init_138 : decode cX7_init 138 = .ok (.iastore, 1) := by decide +kernel
theorem dX7_init_139 : decode cX7_init 139 = .ok (.aload_n 0, 1) := by decide +kernel
theorem dX7_init_140 : decode cX7_init 140 = .ok (.getfield 7, 3) := by decide +kernel
theorem dX7_init_143 : decode cX7_init 143 = .ok (.bipush 10, 2) := by decide +kernel
theorem dX7_init_145 : decode cX7_init 145 = .ok (.bipush 10, 2) := by decide +kernel
theorem dX7_init_147 : decode cX7_init 147 = .ok (.iastore, 1) := by decide +kernel
theorem dX7_init_148 : decode cX7_init 148 = .ok (.aload_n 0, 1) := by decide +kernel
theorem dX7_init_149 : decode cX7_init 149 = .ok (.getfield 7, 3) := by decide +kernel
theorem dX7_init_152 : decode cX7_init 152 = .ok (.bipush 11, 2) := by decide +kernel
theorem dX7_init_154 : decode cX7_init 154 = .ok (.bipush 50, 2) := by decide +kernel
theorem dX7_init_156 : decode cX7_init 156 = .ok (.iastore, 1) := by decide +kernel
theorem dX7_init_157 : decode cX7_init 157 = .ok (.aload_n 0, 1) := by decide +kernel
theorem dX7_init_158 : decode cX7_init 158 = .ok (.getfield 7, 3) := by decide +kernel
theorem dX7_init_161 : decode cX7_init 161 = .ok (.bipush 13, 2) := by decide +kernel
theorem dX7_init_163 : decode cX7_init 163 = .ok (.iconst 2, 1) := by decide +kernel
theorem dX7_init_164 : decode cX7_init 164 = .ok (.iastore, 1) := by decide +kernel
theorem dX7_init_165 : decode cX7_init 165 = .ok (.aload_n 0, 1) := by decide +kernel
theorem dX7_init_166 : decode cX7_init 166 = .ok (.getfield 7, 3) := by decide +kernel
theorem dX7_init_169 : decode cX7_init 169 = .ok (.bipush 14, 2) := by decide +kernel
theorem dX7_init_171 : decode cX7_init 171 = .ok (.iconst 1, 1) := by decide +kernel
theorem dX7_init_172 : decode cX7_init 172 = .ok (.iastore, 1) := by decide +kernel
theorem dX7_init_173 : decode cX7_init 173 = .ok (.aload_n 0, 1) := by decide +kernel
theorem dX7_init_174 : decode cX7_init 174 = .ok (.getfield 7, 3) := by decide +kernel
theorem dX7_init_177 : decode cX7_init 177 = .ok (.bipush 15, 2) := by decide +kernel
theorem dX7_init_179 : decode cX7_init 179 = .ok (.iconst 3, 1) := by decide +kernel
theorem dX7_init_180 : decode cX7_init 180 = .ok (.iastore, 1) := by decide +kernel
theorem dX7_init_181 : decode cX7_init 181 = .ok (.aload_n 0, 1) := by decide +kernel
theorem dX7_init_182 : decode cX7_init 182 = .ok (.getfield 7, 3) := by decide +kernel
theorem dX7_init_185 : decode cX7_init 185 = .ok (.bipush 24, 2) := by decide +kernel
theorem dX7_init_187 : decode cX7_init 187 = .ok (.iconst (-1), 1) := by decide +kernel
theorem dX7_init_188 : decode cX7_init 188 = .ok (.iastore, 1) := by decide +kernel
theorem dX7_init_189 : decode cX7_init 189 = .ok (.aload_n 0, 1) := by decide +kernel
theorem dX7_init_190 : decode cX7_init 190 = .ok (.getfield 7, 3) := by decide +kernel
theorem dX7_init_193 : decode cX7_init 193 = .ok (.bipush 25, 2) := by decide +kernel
theorem dX7_init_195 : decode cX7_init 195 = .ok (.iconst (-1), 1) := by decide +kernel
theorem dX7_init_196 : decode cX7_init 196 = .ok (.iastore, 1) := by decide +kernel
theorem dX7_init_197 : decode cX7_init 197 = .ok (.return_, 1) := by decide +kernel
theorem dX7_in_0 : decode cX7_in 0 = .ok (.iload_n 0, 1) := by decide +kernel
theorem dX7_in_1 : decode cX7_in 1 = .ok (.iload_n 1, 1) := by decide +kernel
theorem dX7_in_2 : decode cX7_in 2 = .ok (.if_icmp .lt 12, 3) := by decide +kernel
theorem dX7_in_5 : decode cX7_in 5 = .ok (.iload_n 0, 1) := by decide +kernel
theorem dX7_in_6 : decode cX7_in 6 = .ok (.iload_n 2, 1) := by decide +kernel
theorem dX7_in_7 : decode cX7_in 7 = .ok (.if_icmp .gt 7, 3) := by decide +kernel
theorem dX7_in_10 : decode cX7_in 10 = .ok (.iconst 1, 1) := by decide +kernel
theorem dX7_in_11 : decode cX7_in 11 = .ok (.goto 4, 3) := by decide +kernel
theorem dX7_in_14 : decode cX7_in 14 = .ok (.iconst 0, 1) := by decide +kernel
theorem dX7_in_15 : decode cX7_in 15 = .ok (.ireturn, 1) := by decide +kernel
theorem dX7_isKind_0 : decode cX7_isKind 0 = .ok (.iload_n 1, 1) := by decide +kernel
theorem dX7_isKind_1 : decode cX7_isKind 1 = .ok (.iconst 0, 1) := by decide +kernel
theorem dX7_isKind_2 : decode cX7_isKind 2 = .ok (.aload_n 0, 1) := by decide +kernel
theorem dX7_isKind_3 : decode cX7_isKind 3 = .ok (.getfield 7, 3) := by decide +kernel
theorem dX7_isKind_6 : decode cX7_isKind 6 = .ok (.bipush 27, 2) := by decide +kernel
theorem dX7_isKind_8 : decode cX7_isKind 8 = .ok (.iaload, 1) := by decide +kernel
theorem dX7_isKind_9 : decode cX7_isKind 9 = .ok (.iconst 1, 1) := by decide +kernel
theorem dX7_isKind_10 : decode cX7_isKind 10 = .ok (.isub, 1) := by decide +kernel
theorem dX7_isKind_11 : decode cX7_isKind 11 = .ok (.invokestatic 29, 3) := by decide +kernel
theorem dX7_isKind_14 : decode cX7_isKind 14 = .ok (.ireturn, 1) := by decide +kernel
theorem dX7_isFarmer_0 : decode cX7_isFarmer 0 = .ok (.iload_n 1, 1) := by decide +kernel
theorem dX7_isFarmer_1 : decode cX7_isFarmer 1 = .ok (.iconst 0, 1) := by decide +kernel
theorem dX7_isFarmer_2 : decode cX7_isFarmer 2 = .ok (.aload_n 0, 1) := by decide +kernel
theorem dX7_isFarmer_3 : decode cX7_isFarmer 3 = .ok (.getfield 7, 3) := by decide +kernel
theorem dX7_isFarmer_6 : decode cX7_isFarmer 6 = .ok (.bipush 28, 2) := by decide +kernel
theorem dX7_isFarmer_8 : decode cX7_isFarmer 8 = .ok (.iaload, 1) := by decide +kernel
theorem dX7_isFarmer_9 : decode cX7_isFarmer 9 = .ok (.iconst 1, 1) := by decide +kernel
theorem dX7_isFarmer_10 : decode cX7_isFarmer 10 = .ok (.isub, 1) := by decide +kernel
theorem dX7_isFarmer_11 : decode cX7_isFarmer 11 = .ok (.invokestatic 29, 3) := by decide +kernel
theorem dX7_isFarmer_14 : decode cX7_isFarmer 14 = .ok (.ireturn, 1) := by decide +kernel
theorem dX7_isSack_0 : decode cX7_isSack 0 = .ok (.iload_n 1, 1) := by decide +kernel
theorem dX7_isSack_1 : decode cX7_isSack 1 = .ok (.iconst 0, 1) := by decide +kernel
theorem dX7_isSack_2 : decode cX7_isSack 2 = .ok (.aload_n 0, 1) := by decide +kernel
theorem dX7_isSack_3 : decode cX7_isSack 3 = .ok (.getfield 7, 3) := by decide +kernel
theorem dX7_isSack_6 : decode cX7_isSack 6 = .ok (.bipush 29, 2) := by decide +kernel
theorem dX7_isSack_8 : decode cX7_isSack 8 = .ok (.iaload, 1) := by decide +kernel
theorem dX7_isSack_9 : decode cX7_isSack 9 = .ok (.iconst 1, 1) := by decide +kernel
theorem dX7_isSack_10 : decode cX7_isSack 10 = .ok (.isub, 1) := by decide +kernel
theorem dX7_isSack_11 : decode cX7_isSack 11 = .ok (.invokestatic 29, 3) := by decide +kernel
theorem dX7_isSack_14 : decode cX7_isSack 14 = .ok (.ireturn, 1) := by decide +kernel
theorem dX7_of_0 : decode cX7_of 0 = .ok (.aload_n 0, 1) := by decide +kernel
theorem dX7_of_1 : decode cX7_of 1 = .ok (.getfield 7, 3) := by decide +kernel
theorem dX7_of_4 : decode cX7_of 4 = .ok (.bipush 56, 2) := by decide +kernel
theorem dX7_of_6 : decode cX7_of 6 = .ok (.bipush 13, 2) := by decide +kernel
theorem dX7_of_8 : decode cX7_of 8 = .ok (.iload_n 1, 1) := by decide +kernel
theorem dX7_of_9 : decode cX7_of 9 = .ok (.imul, 1) := by decide +kernel
theorem dX7_of_10 : decode cX7_of 10 = .ok (.iadd, 1) := by decide +kernel
theorem dX7_of_11 : decode cX7_of 11 = .ok (.iload_n 2, 1) := by decide +kernel
theorem dX7_of_12 : decode cX7_of 12 = .ok (.iadd, 1) := by decide +kernel
theorem dX7_of_13 : decode cX7_of 13 = .ok (.iaload, 1) := by decide +kernel
theorem dX7_of_14 : decode cX7_of 14 = .ok (.ireturn, 1) := by decide +kernel
theorem dX7_put_0 : decode cX7_put 0 = .ok (.aload_n 0, 1) := by decide +kernel
theorem dX7_put_1 : decode cX7_put 1 = .ok (.getfield 7, 3) := by decide +kernel
theorem dX7_put_4 : decode cX7_put 4 = .ok (.bipush 56, 2) := by decide +kernel
theorem dX7_put_6 : decode cX7_put 6 = .ok (.bipush 13, 2) := by decide +kernel
theorem dX7_put_8 : decode cX7_put 8 = .ok (.iload_n 1, 1) := by decide +kernel
theorem dX7_put_9 : decode cX7_put 9 = .ok (.imul, 1) := by decide +kernel
theorem dX7_put_10 : decode cX7_put 10 = .ok (.iadd, 1) := by decide +kernel
theorem dX7_put_11 : decode cX7_put 11 = .ok (.iload_n 2, 1) := by decide +kernel
theorem dX7_put_12 : decode cX7_put 12 = .ok (.iadd, 1) := by decide +kernel
theorem dX7_put_13 : decode cX7_put 13 = .ok (.iload_n 3, 1) := by decide +kernel
theorem dX7_put_14 : decode cX7_put 14 = .ok (.iastore, 1) := by decide +kernel
theorem dX7_put_15 : decode cX7_put 15 = .ok (.return_, 1) := by decide +kernel
theorem dX7_hardness_0 : decode cX7_hardness 0 = .ok (.aload_n 0, 1) := by decide +kernel
theorem dX7_hardness_1 : decode cX7_hardness 1 = .ok (.getfield 7, 3) := by decide +kernel
theorem dX7_hardness_4 : decode cX7_hardness 4 = .ok (.bipush 30, 2) := by decide +kernel
theorem dX7_hardness_6 : decode cX7_hardness 6 = .ok (.iconst 3, 1) := by decide +kernel
theorem dX7_hardness_7 : decode cX7_hardness 7 = .ok (.iload_n 1, 1) := by decide +kernel
theorem dX7_hardness_8 : decode cX7_hardness 8 = .ok (.imul, 1) := by decide +kernel
theorem dX7_hardness_9 : decode cX7_hardness 9 = .ok (.iadd, 1) := by decide +kernel
theorem dX7_hardness_10 : decode cX7_hardness 10 = .ok (.iaload, 1) := by decide +kernel
theorem dX7_hardness_11 : decode cX7_hardness 11 = .ok (.ireturn, 1) := by decide +kernel
theorem dX7_keeps_0 : decode cX7_keeps 0 = .ok (.iconst 0, 1) := by decide +kernel
theorem dX7_keeps_1 : decode cX7_keeps 1 = .ok (.istore_n 1, 1) := by decide +kernel
theorem dX7_keeps_2 : decode cX7_keeps 2 = .ok (.iload_n 1, 1) := by decide +kernel
theorem dX7_keeps_3 : decode cX7_keeps 3 = .ok (.sipush 368, 3) := by decide +kernel
theorem dX7_keeps_6 : decode cX7_keeps 6 = .ok (.if_icmp .ge 21, 3) := by decide +kernel
theorem dX7_keeps_9 : decode cX7_keeps 9 = .ok (.aload_n 0, 1) := by decide +kernel
theorem dX7_keeps_10 : decode cX7_keeps 10 = .ok (.getfield 19, 3) := by decide +kernel
theorem dX7_keeps_13 : decode cX7_keeps 13 = .ok (.iload_n 1, 1) := by decide +kernel
theorem dX7_keeps_14 : decode cX7_keeps 14 = .ok (.aload_n 0, 1) := by decide +kernel
theorem dX7_keeps_15 : decode cX7_keeps 15 = .ok (.getfield 7, 3) := by decide +kernel
theorem dX7_keeps_18 : decode cX7_keeps 18 = .ok (.iload_n 1, 1) := by decide +kernel
theorem dX7_keeps_19 : decode cX7_keeps 19 = .ok (.iaload, 1) := by decide +kernel
theorem dX7_keeps_20 : decode cX7_keeps 20 = .ok (.iastore, 1) := by decide +kernel
theorem dX7_keeps_21 : decode cX7_keeps 21 = .ok (.iinc 1 1, 3) := by decide +kernel
theorem dX7_keeps_24 : decode cX7_keeps 24 = .ok (.goto (-22), 3) := by decide +kernel
theorem dX7_keeps_27 : decode cX7_keeps 27 = .ok (.return_, 1) := by decide +kernel
theorem dX7_acted_0 : decode cX7_acted 0 = .ok (.iload_n 1, 1) := by decide +kernel
theorem dX7_acted_1 : decode cX7_acted 1 = .ok (.ldc 33, 2) := by decide +kernel
theorem dX7_acted_3 : decode cX7_acted 3 = .ok (.if_icmp .le 98, 3) := by decide +kernel
theorem dX7_acted_6 : decode cX7_acted 6 = .ok (.aload_n 0, 1) := by decide +kernel
theorem dX7_acted_7 : decode cX7_acted 7 = .ok (.getfield 34, 3) := by decide +kernel
theorem dX7_acted_10 : decode cX7_acted 10 = .ok (.iconst 4, 1) := by decide +kernel
theorem dX7_acted_11 : decode cX7_acted 11 = .ok (.if_icmp .ne 44, 3) := by decide +kernel
theorem dX7_acted_14 : decode cX7_acted 14 = .ok (.iconst 0, 1) := by decide +kernel
theorem dX7_acted_15 : decode cX7_acted 15 = .ok (.istore_n 2, 1) := by decide +kernel
theorem dX7_acted_16 : decode cX7_acted 16 = .ok (.iload_n 2, 1) := by decide +kernel
theorem dX7_acted_17 : decode cX7_acted 17 = .ok (.sipush 1104, 3) := by decide +kernel
theorem dX7_acted_20 : decode cX7_acted 20 = .ok (.if_icmp .ge 25, 3) := by decide +kernel
theorem dX7_acted_23 : decode cX7_acted 23 = .ok (.aload_n 0, 1) := by decide +kernel
theorem dX7_acted_24 : decode cX7_acted 24 = .ok (.getfield 13, 3) := by decide +kernel
theorem dX7_acted_27 : decode cX7_acted 27 = .ok (.iload_n 2, 1) := by decide +kernel
theorem dX7_acted_28 : decode cX7_acted 28 = .ok (.aload_n 0, 1) := by decide +kernel
theorem dX7_acted_29 : decode cX7_acted 29 = .ok (.getfield 13, 3) := by decide +kernel
theorem dX7_acted_32 : decode cX7_acted 32 = .ok (.iload_n 2, 1) := by decide +kernel
theorem dX7_acted_33 : decode cX7_acted 33 = .ok (.sipush 368, 3) := by decide +kernel
theorem dX7_acted_36 : decode cX7_acted 36 = .ok (.iadd, 1) := by decide +kernel
theorem dX7_acted_37 : decode cX7_acted 37 = .ok (.iaload, 1) := by decide +kernel
theorem dX7_acted_38 : decode cX7_acted 38 = .ok (.iastore, 1) := by decide +kernel
theorem dX7_acted_39 : decode cX7_acted 39 = .ok (.iinc 2 1, 3) := by decide +kernel
theorem dX7_acted_42 : decode cX7_acted 42 = .ok (.goto (-26), 3) := by decide +kernel
theorem dX7_acted_45 : decode cX7_acted 45 = .ok (.aload_n 0, 1) := by decide +kernel
theorem dX7_acted_46 : decode cX7_acted 46 = .ok (.dup, 1) := by decide +kernel
theorem dX7_acted_47 : decode cX7_acted 47 = .ok (.getfield 34, 3) := by decide +kernel
theorem dX7_acted_50 : decode cX7_acted 50 = .ok (.iconst 1, 1) := by decide +kernel
theorem dX7_acted_51 : decode cX7_acted 51 = .ok (.isub, 1) := by decide +kernel
theorem dX7_acted_52 : decode cX7_acted 52 = .ok (.putfield 34, 3) := by decide +kernel
theorem dX7_acted_55 : decode cX7_acted 55 = .ok (.iconst 0, 1) := by decide +kernel
theorem dX7_acted_56 : decode cX7_acted 56 = .ok (.istore_n 2, 1) := by decide +kernel
theorem dX7_acted_57 : decode cX7_acted 57 = .ok (.iload_n 2, 1) := by decide +kernel
theorem dX7_acted_58 : decode cX7_acted 58 = .ok (.sipush 368, 3) := by decide +kernel
theorem dX7_acted_61 : decode cX7_acted 61 = .ok (.if_icmp .ge 30, 3) := by decide +kernel
theorem dX7_acted_64 : decode cX7_acted 64 = .ok (.aload_n 0, 1) := by decide +kernel
theorem dX7_acted_65 : decode cX7_acted 65 = .ok (.getfield 13, 3) := by decide +kernel
theorem dX7_acted_68 : decode cX7_acted 68 = .ok (.sipush 368, 3) := by decide +kernel
theorem dX7_acted_71 : decode cX7_acted 71 = .ok (.aload_n 0, 1) := by decide +kernel
theorem dX7_acted_72 : decode cX7_acted 72 = .ok (.getfield 34, 3) := by decide +kernel
theorem dX7_acted_75 : decode cX7_acted 75 = .ok (.imul, 1) := by decide +kernel
theorem dX7_acted_76 : decode cX7_acted 76 = .ok (.iload_n 2, 1) := by decide +kernel
theorem dX7_acted_77 : decode cX7_acted 77 = .ok (.iadd, 1) := by decide +kernel
theorem dX7_acted_78 : decode cX7_acted 78 = .ok (.aload_n 0, 1) := by decide +kernel
theorem dX7_acted_79 : decode cX7_acted 79 = .ok (.getfield 19, 3) := by decide +kernel
theorem dX7_acted_82 : decode cX7_acted 82 = .ok (.iload_n 2, 1) := by decide +kernel
theorem dX7_acted_83 : decode cX7_acted 83 = .ok (.iaload, 1) := by decide +kernel
theorem dX7_acted_84 : decode cX7_acted 84 = .ok (.iastore, 1) := by decide +kernel
theorem dX7_acted_85 : decode cX7_acted 85 = .ok (.iinc 2 1, 3) := by decide +kernel
theorem dX7_acted_88 : decode cX7_acted 88 = .ok (.goto (-31), 3) := by decide +kernel
theorem dX7_acted_91 : decode cX7_acted 91 = .ok (.aload_n 0, 1) := by decide +kernel
theorem dX7_acted_92 : decode cX7_acted 92 = .ok (.dup, 1) := by decide +kernel
theorem dX7_acted_93 : decode cX7_acted 93 = .ok (.getfield 34, 3) := by decide +kernel
theorem dX7_acted_96 : decode cX7_acted 96 = .ok (.iconst 1, 1) := by decide +kernel
theorem dX7_acted_97 : decode cX7_acted 97 = .ok (.iadd, 1) := by decide +kernel
theorem dX7_acted_98 : decode cX7_acted 98 = .ok (.putfield 34, 3) := by decide +kernel
theorem dX7_acted_101 : decode cX7_acted 101 = .ok (.iload_n 1, 1) := by decide +kernel
theorem dX7_acted_102 : decode cX7_acted 102 = .ok (.ireturn, 1) := by decide +kernel
theorem dX7_lays_0 : decode cX7_lays 0 = .ok (.iconst 0, 1) := by decide +kernel
theorem dX7_lays_1 : decode cX7_lays 1 = .ok (.istore_n 1, 1) := by decide +kernel
theorem dX7_lays_2 : decode cX7_lays 2 = .ok (.iload_n 1, 1) := by decide +kernel
theorem dX7_lays_3 : decode cX7_lays 3 = .ok (.sipush 368, 3) := by decide +kernel
theorem dX7_lays_6 : decode cX7_lays 6 = .ok (.if_icmp .ge 21, 3) := by decide +kernel
theorem dX7_lays_9 : decode cX7_lays 9 = .ok (.aload_n 0, 1) := by decide +kernel
theorem dX7_lays_10 : decode cX7_lays 10 = .ok (.getfield 16, 3) := by decide +kernel
theorem dX7_lays_13 : decode cX7_lays 13 = .ok (.iload_n 1, 1) := by decide +kernel
theorem dX7_lays_14 : decode cX7_lays 14 = .ok (.aload_n 0, 1) := by decide +kernel
theorem dX7_lays_15 : decode cX7_lays 15 = .ok (.getfield 7, 3) := by decide +kernel
theorem dX7_lays_18 : decode cX7_lays 18 = .ok (.iload_n 1, 1) := by decide +kernel
theorem dX7_lays_19 : decode cX7_lays 19 = .ok (.iaload, 1) := by decide +kernel
theorem dX7_lays_20 : decode cX7_lays 20 = .ok (.iastore, 1) := by decide +kernel
theorem dX7_lays_21 : decode cX7_lays 21 = .ok (.iinc 1 1, 3) := by decide +kernel
theorem dX7_lays_24 : decode cX7_lays 24 = .ok (.goto (-22), 3) := by decide +kernel
theorem dX7_lays_27 : decode cX7_lays 27 = .ok (.return_, 1) := by decide +kernel
theorem dX7_restores_0 : decode cX7_restores 0 = .ok (.iconst 0, 1) := by decide +kernel
theorem dX7_restores_1 : decode cX7_restores 1 = .ok (.istore_n 1, 1) := by decide +kernel
theorem dX7_restores_2 : decode cX7_restores 2 = .ok (.iload_n 1, 1) := by decide +kernel
theorem dX7_restores_3 : decode cX7_restores 3 = .ok (.sipush 368, 3) := by decide +kernel
theorem dX7_restores_6 : decode cX7_restores 6 = .ok (.if_icmp .ge 21, 3) := by decide +kernel
theorem dX7_restores_9 : decode cX7_restores 9 = .ok (.aload_n 0, 1) := by decide +kernel
theorem dX7_restores_10 : decode cX7_restores 10 = .ok (.getfield 7, 3) := by decide +kernel
theorem dX7_restores_13 : decode cX7_restores 13 = .ok (.iload_n 1, 1) := by decide +kernel
theorem dX7_restores_14 : decode cX7_restores 14 = .ok (.aload_n 0, 1) := by decide +kernel
theorem dX7_restores_15 : decode cX7_restores 15 = .ok (.getfield 16, 3) := by decide +kernel
theorem dX7_restores_18 : decode cX7_restores 18 = .ok (.iload_n 1, 1) := by decide +kernel
theorem dX7_restores_19 : decode cX7_restores 19 = .ok (.iaload, 1) := by decide +kernel
theorem dX7_restores_20 : decode cX7_restores 20 = .ok (.iastore, 1) := by decide +kernel
theorem dX7_restores_21 : decode cX7_restores 21 = .ok (.iinc 1 1, 3) := by decide +kernel
theorem dX7_restores_24 : decode cX7_restores 24 = .ok (.goto (-22), 3) := by decide +kernel
theorem dX7_restores_27 : decode cX7_restores 27 = .ok (.return_, 1) := by decide +kernel
theorem dX7_toll_0 : decode cX7_toll 0 = .ok (.aload_n 0, 1) := by decide +kernel
theorem dX7_toll_1 : decode cX7_toll 1 = .ok (.iload_n 1, 1) := by decide +kernel
theorem dX7_toll_2 : decode cX7_toll 2 = .ok (.iconst 4, 1) := by decide +kernel
theorem dX7_toll_3 : decode cX7_toll 3 = .ok (.invokevirtual 38, 3) := by decide +kernel
theorem dX7_toll_6 : decode cX7_toll 6 = .ok (.aload_n 0, 1) := by decide +kernel
theorem dX7_toll_7 : decode cX7_toll 7 = .ok (.iload_n 1, 1) := by decide +kernel
theorem dX7_toll_8 : decode cX7_toll 8 = .ok (.iconst 5, 1) := by decide +kernel
theorem dX7_toll_9 : decode cX7_toll 9 = .ok (.invokevirtual 38, 3) := by decide +kernel
theorem dX7_toll_12 : decode cX7_toll 12 = .ok (.imul, 1) := by decide +kernel
theorem dX7_toll_13 : decode cX7_toll 13 = .ok (.bipush 100, 2) := by decide +kernel
theorem dX7_toll_15 : decode cX7_toll 15 = .ok (.idiv, 1) := by decide +kernel
theorem dX7_toll_16 : decode cX7_toll 16 = .ok (.ireturn, 1) := by decide +kernel
theorem dX7_dust_0 : decode cX7_dust 0 = .ok (.aload_n 0, 1) := by decide +kernel
theorem dX7_dust_1 : decode cX7_dust 1 = .ok (.iload_n 1, 1) := by decide +kernel
theorem dX7_dust_2 : decode cX7_dust 2 = .ok (.iconst 4, 1) := by decide +kernel
theorem dX7_dust_3 : decode cX7_dust 3 = .ok (.invokevirtual 38, 3) := by decide +kernel
theorem dX7_dust_6 : decode cX7_dust 6 = .ok (.aload_n 0, 1) := by decide +kernel
theorem dX7_dust_7 : decode cX7_dust 7 = .ok (.iload_n 1, 1) := by decide +kernel
theorem dX7_dust_8 : decode cX7_dust 8 = .ok (.invokevirtual 42, 3) := by decide +kernel
theorem dX7_dust_11 : decode cX7_dust 11 = .ok (.isub, 1) := by decide +kernel
theorem dX7_dust_12 : decode cX7_dust 12 = .ok (.aload_n 0, 1) := by decide +kernel
theorem dX7_dust_13 : decode cX7_dust 13 = .ok (.getfield 7, 3) := by decide +kernel
theorem dX7_dust_16 : decode cX7_dust 16 = .ok (.bipush 30, 2) := by decide +kernel
theorem dX7_dust_18 : decode cX7_dust 18 = .ok (.iconst 3, 1) := by decide +kernel
theorem dX7_dust_19 : decode cX7_dust 19 = .ok (.aload_n 0, 1) := by decide +kernel
theorem dX7_dust_20 : decode cX7_dust 20 = .ok (.iload_n 1, 1) := by decide +kernel
theorem dX7_dust_21 : decode cX7_dust 21 = .ok (.iconst 1, 1) := by decide +kernel
theorem dX7_dust_22 : decode cX7_dust 22 = .ok (.invokevirtual 38, 3) := by decide +kernel
theorem dX7_dust_25 : decode cX7_dust 25 = .ok (.imul, 1) := by decide +kernel
theorem dX7_dust_26 : decode cX7_dust 26 = .ok (.iadd, 1) := by decide +kernel
theorem dX7_dust_27 : decode cX7_dust 27 = .ok (.iconst 1, 1) := by decide +kernel
theorem dX7_dust_28 : decode cX7_dust 28 = .ok (.iadd, 1) := by decide +kernel
theorem dX7_dust_29 : decode cX7_dust 29 = .ok (.iaload, 1) := by decide +kernel
theorem dX7_dust_30 : decode cX7_dust 30 = .ok (.imul, 1) := by decide +kernel
theorem dX7_dust_31 : decode cX7_dust 31 = .ok (.bipush 100, 2) := by decide +kernel
theorem dX7_dust_33 : decode cX7_dust 33 = .ok (.idiv, 1) := by decide +kernel
theorem dX7_dust_34 : decode cX7_dust 34 = .ok (.ireturn, 1) := by decide +kernel
theorem dX7_grain_0 : decode cX7_grain 0 = .ok (.aload_n 0, 1) := by decide +kernel
theorem dX7_grain_1 : decode cX7_grain 1 = .ok (.iload_n 1, 1) := by decide +kernel
theorem dX7_grain_2 : decode cX7_grain 2 = .ok (.iconst 3, 1) := by decide +kernel
theorem dX7_grain_3 : decode cX7_grain 3 = .ok (.invokevirtual 38, 3) := by decide +kernel
theorem dX7_grain_6 : decode cX7_grain 6 = .ok (.iconst 3, 1) := by decide +kernel
theorem dX7_grain_7 : decode cX7_grain 7 = .ok (.if_icmp .ne 7, 3) := by decide +kernel
theorem dX7_grain_10 : decode cX7_grain 10 = .ok (.iconst 0, 1) := by decide +kernel
theorem dX7_grain_11 : decode cX7_grain 11 = .ok (.goto 16, 3) := by decide +kernel
theorem dX7_grain_14 : decode cX7_grain 14 = .ok (.aload_n 0, 1) := by decide +kernel
theorem dX7_grain_15 : decode cX7_grain 15 = .ok (.iload_n 1, 1) := by decide +kernel
theorem dX7_grain_16 : decode cX7_grain 16 = .ok (.iconst 2, 1) := by decide +kernel
theorem dX7_grain_17 : decode cX7_grain 17 = .ok (.invokevirtual 38, 3) := by decide +kernel
theorem dX7_grain_20 : decode cX7_grain 20 = .ok (.aload_n 0, 1) := by decide +kernel
theorem dX7_grain_21 : decode cX7_grain 21 = .ok (.iload_n 1, 1) := by decide +kernel
theorem dX7_grain_22 : decode cX7_grain 22 = .ok (.iconst 4, 1) := by decide +kernel
theorem dX7_grain_23 : decode cX7_grain 23 = .ok (.invokevirtual 38, 3) := by decide +kernel
theorem dX7_grain_26 : decode cX7_grain 26 = .ok (.isub, 1) := by decide +kernel
theorem dX7_grain_27 : decode cX7_grain 27 = .ok (.ireturn, 1) := by decide +kernel
theorem dX7_flour_0 : decode cX7_flour 0 = .ok (.aload_n 0, 1) := by decide +kernel
theorem dX7_flour_1 : decode cX7_flour 1 = .ok (.iload_n 1, 1) := by decide +kernel
theorem dX7_flour_2 : decode cX7_flour 2 = .ok (.iconst 3, 1) := by decide +kernel
theorem dX7_flour_3 : decode cX7_flour 3 = .ok (.invokevirtual 38, 3) := by decide +kernel
theorem dX7_flour_6 : decode cX7_flour 6 = .ok (.iconst 3, 1) := by decide +kernel
theorem dX7_flour_7 : decode cX7_flour 7 = .ok (.if_icmp .ne 7, 3) := by decide +kernel
theorem dX7_flour_10 : decode cX7_flour 10 = .ok (.iconst 0, 1) := by decide +kernel
theorem dX7_flour_11 : decode cX7_flour 11 = .ok (.goto 37, 3) := by decide +kernel
theorem dX7_flour_14 : decode cX7_flour 14 = .ok (.aload_n 0, 1) := by decide +kernel
theorem dX7_flour_15 : decode cX7_flour 15 = .ok (.iload_n 1, 1) := by decide +kernel
theorem dX7_flour_16 : decode cX7_flour 16 = .ok (.iconst 4, 1) := by decide +kernel
theorem dX7_flour_17 : decode cX7_flour 17 = .ok (.invokevirtual 38, 3) := by decide +kernel
theorem dX7_flour_20 : decode cX7_flour 20 = .ok (.aload_n 0, 1) := by decide +kernel
theorem dX7_flour_21 : decode cX7_flour 21 = .ok (.iload_n 1, 1) := by decide +kernel
theorem dX7_flour_22 : decode cX7_flour 22 = .ok (.invokevirtual 42, 3) := by decide +kernel
theorem dX7_flour_25 : decode cX7_flour 25 = .ok (.isub, 1) := by decide +kernel
theorem dX7_flour_26 : decode cX7_flour 26 = .ok (.aload_n 0, 1) := by decide +kernel
theorem dX7_flour_27 : decode cX7_flour 27 = .ok (.iload_n 1, 1) := by decide +kernel
theorem dX7_flour_28 : decode cX7_flour 28 = .ok (.invokevirtual 46, 3) := by decide +kernel
theorem dX7_flour_31 : decode cX7_flour 31 = .ok (.isub, 1) := by decide +kernel
theorem dX7_flour_32 : decode cX7_flour 32 = .ok (.aload_n 0, 1) := by decide +kernel
theorem dX7_flour_33 : decode cX7_flour 33 = .ok (.iload_n 1, 1) := by decide +kernel
theorem dX7_flour_34 : decode cX7_flour 34 = .ok (.bipush 6, 2) := by decide +kernel
theorem dX7_flour_36 : decode cX7_flour 36 = .ok (.invokevirtual 38, 3) := by decide +kernel
theorem dX7_flour_39 : decode cX7_flour 39 = .ok (.isub, 1) := by decide +kernel
theorem dX7_flour_40 : decode cX7_flour 40 = .ok (.aload_n 0, 1) := by decide +kernel
theorem dX7_flour_41 : decode cX7_flour 41 = .ok (.iload_n 1, 1) := by decide +kernel
theorem dX7_flour_42 : decode cX7_flour 42 = .ok (.bipush 10, 2) := by decide +kernel
theorem dX7_flour_44 : decode cX7_flour 44 = .ok (.invokevirtual 38, 3) := by decide +kernel
theorem dX7_flour_47 : decode cX7_flour 47 = .ok (.isub, 1) := by decide +kernel
theorem dX7_flour_48 : decode cX7_flour 48 = .ok (.ireturn, 1) := by decide +kernel
theorem dX7_came_0 : decode cX7_came 0 = .ok (.iconst 0, 1) := by decide +kernel
theorem dX7_came_1 : decode cX7_came 1 = .ok (.istore_n 2, 1) := by decide +kernel
theorem dX7_came_2 : decode cX7_came 2 = .ok (.iconst 0, 1) := by decide +kernel
theorem dX7_came_3 : decode cX7_came 3 = .ok (.istore_n 3, 1) := by decide +kernel
theorem dX7_came_4 : decode cX7_came 4 = .ok (.iload_n 3, 1) := by decide +kernel
theorem dX7_came_5 : decode cX7_came 5 = .ok (.aload_n 0, 1) := by decide +kernel
theorem dX7_came_6 : decode cX7_came 6 = .ok (.getfield 7, 3) := by decide +kernel
theorem dX7_came_9 : decode cX7_came 9 = .ok (.bipush 29, 2) := by decide +kernel
theorem dX7_came_11 : decode cX7_came 11 = .ok (.iaload, 1) := by decide +kernel
theorem dX7_came_12 : decode cX7_came 12 = .ok (.if_icmp .ge 38, 3) := by decide +kernel
theorem dX7_came_15 : decode cX7_came 15 = .ok (.iload_n 2, 1) := by decide +kernel
theorem dX7_came_16 : decode cX7_came 16 = .ok (.aload_n 0, 1) := by decide +kernel
theorem dX7_came_17 : decode cX7_came 17 = .ok (.iload_n 3, 1) := by decide +kernel
theorem dX7_came_18 : decode cX7_came 18 = .ok (.iconst 0, 1) := by decide +kernel
theorem dX7_came_19 : decode cX7_came 19 = .ok (.invokevirtual 38, 3) := by decide +kernel
theorem dX7_came_22 : decode cX7_came 22 = .ok (.iload_n 1, 1) := by decide +kernel
theorem dX7_came_23 : decode cX7_came 23 = .ok (.if_icmp .ne 18, 3) := by decide +kernel
theorem dX7_came_26 : decode cX7_came 26 = .ok (.aload_n 0, 1) := by decide +kernel
theorem dX7_came_27 : decode cX7_came 27 = .ok (.iload_n 3, 1) := by decide +kernel
theorem dX7_came_28 : decode cX7_came 28 = .ok (.bipush 12, 2) := by decide +kernel
theorem dX7_came_30 : decode cX7_came 30 = .ok (.invokevirtual 38, 3) := by decide +kernel
theorem dX7_came_33 : decode cX7_came 33 = .ok (.iconst 1, 1) := by decide +kernel
theorem dX7_came_34 : decode cX7_came 34 = .ok (.if_icmp .ne 7, 3) := by decide +kernel
theorem dX7_came_37 : decode cX7_came 37 = .ok (.iconst 1, 1) := by decide +kernel
theorem dX7_came_38 : decode cX7_came 38 = .ok (.goto 4, 3) := by decide +kernel
theorem dX7_came_41 : decode cX7_came 41 = .ok (.iconst 0, 1) := by decide +kernel
theorem dX7_came_42 : decode cX7_came 42 = .ok (.iadd, 1) := by decide +kernel
theorem dX7_came_43 : decode cX7_came 43 = .ok (.istore_n 2, 1) := by decide +kernel
theorem dX7_came_44 : decode cX7_came 44 = .ok (.iinc 3 1, 3) := by decide +kernel
theorem dX7_came_47 : decode cX7_came 47 = .ok (.goto (-43), 3) := by decide +kernel
theorem dX7_came_50 : decode cX7_came 50 = .ok (.iload_n 2, 1) := by decide +kernel
theorem dX7_came_51 : decode cX7_came 51 = .ok (.ireturn, 1) := by decide +kernel
theorem dX7_weight_0 : decode cX7_weight 0 = .ok (.aload_n 0, 1) := by decide +kernel
theorem dX7_weight_1 : decode cX7_weight 1 = .ok (.getfield 7, 3) := by decide +kernel
theorem dX7_weight_4 : decode cX7_weight 4 = .ok (.bipush 12, 2) := by decide +kernel
theorem dX7_weight_6 : decode cX7_weight 6 = .ok (.iaload, 1) := by decide +kernel
theorem dX7_weight_7 : decode cX7_weight 7 = .ok (.tableswitch 77 1 3 #[25, 32, 43], 25) := by decide +kernel
theorem dX7_weight_32 : decode cX7_weight 32 = .ok (.aload_n 0, 1) := by decide +kernel
theorem dX7_weight_33 : decode cX7_weight 33 = .ok (.iload_n 1, 1) := by decide +kernel
theorem dX7_weight_34 : decode cX7_weight 34 = .ok (.iconst 2, 1) := by decide +kernel
theorem dX7_weight_35 : decode cX7_weight 35 = .ok (.invokevirtual 38, 3) := by decide +kernel
theorem dX7_weight_38 : decode cX7_weight 38 = .ok (.ireturn, 1) := by decide +kernel
theorem dX7_weight_39 : decode cX7_weight 39 = .ok (.aload_n 0, 1) := by decide +kernel
theorem dX7_weight_40 : decode cX7_weight 40 = .ok (.aload_n 0, 1) := by decide +kernel
theorem dX7_weight_41 : decode cX7_weight 41 = .ok (.iload_n 1, 1) := by decide +kernel
theorem dX7_weight_42 : decode cX7_weight 42 = .ok (.iconst 0, 1) := by decide +kernel
theorem dX7_weight_43 : decode cX7_weight 43 = .ok (.invokevirtual 38, 3) := by decide +kernel
theorem dX7_weight_46 : decode cX7_weight 46 = .ok (.invokevirtual 49, 3) := by decide +kernel
theorem dX7_weight_49 : decode cX7_weight 49 = .ok (.ireturn, 1) := by decide +kernel
theorem dX7_weight_50 : decode cX7_weight 50 = .ok (.aload_n 0, 1) := by decide +kernel
theorem dX7_weight_51 : decode cX7_weight 51 = .ok (.iload_n 1, 1) := by decide +kernel
theorem dX7_weight_52 : decode cX7_weight 52 = .ok (.iconst 1, 1) := by decide +kernel
theorem dX7_weight_53 : decode cX7_weight 53 = .ok (.invokevirtual 38, 3) := by decide +kernel
theorem dX7_weight_56 : decode cX7_weight 56 = .ok (.aload_n 0, 1) := by decide +kernel
theorem dX7_weight_57 : decode cX7_weight 57 = .ok (.getfield 7, 3) := by decide +kernel
theorem dX7_weight_60 : decode cX7_weight 60 = .ok (.bipush 25, 2) := by decide +kernel
theorem dX7_weight_62 : decode cX7_weight 62 = .ok (.iaload, 1) := by decide +kernel
theorem dX7_weight_63 : decode cX7_weight 63 = .ok (.if_icmp .ne 7, 3) := by decide +kernel
theorem dX7_weight_66 : decode cX7_weight 66 = .ok (.iconst 0, 1) := by decide +kernel
theorem dX7_weight_67 : decode cX7_weight 67 = .ok (.goto 5, 3) := by decide +kernel
theorem dX7_weight_70 : decode cX7_weight 70 = .ok (.bipush 10, 2) := by decide +kernel
theorem dX7_weight_72 : decode cX7_weight 72 = .ok (.aload_n 0, 1) := by decide +kernel
theorem dX7_weight_73 : decode cX7_weight 73 = .ok (.aload_n 0, 1) := by decide +kernel
theorem dX7_weight_74 : decode cX7_weight 74 = .ok (.iload_n 1, 1) := by decide +kernel
theorem dX7_weight_75 : decode cX7_weight 75 = .ok (.iconst 1, 1) := by decide +kernel
theorem dX7_weight_76 : decode cX7_weight 76 = .ok (.invokevirtual 38, 3) := by decide +kernel
theorem dX7_weight_79 : decode cX7_weight 79 = .ok (.invokevirtual 52, 3) := by decide +kernel
theorem dX7_weight_82 : decode cX7_weight 82 = .ok (.iadd, 1) := by decide +kernel
theorem dX7_weight_83 : decode cX7_weight 83 = .ok (.ireturn, 1) := by decide +kernel
theorem dX7_weight_84 : decode cX7_weight 84 = .ok (.iconst 0, 1) := by decide +kernel
theorem dX7_weight_85 : decode cX7_weight 85 = .ok (.ireturn, 1) := by decide +kernel
theorem dX7_placeOf_0 : decode cX7_placeOf 0 = .ok (.iconst 0, 1) := by decide +kernel
theorem dX7_placeOf_1 : decode cX7_placeOf 1 = .ok (.istore_n 2, 1) := by decide +kernel
theorem dX7_placeOf_2 : decode cX7_placeOf 2 = .ok (.iconst 0, 1) := by decide +kernel
theorem dX7_placeOf_3 : decode cX7_placeOf 3 = .ok (.istore_n 3, 1) := by decide +kernel
theorem dX7_placeOf_4 : decode cX7_placeOf 4 = .ok (.iload_n 3, 1) := by decide +kernel
theorem dX7_placeOf_5 : decode cX7_placeOf 5 = .ok (.aload_n 0, 1) := by decide +kernel
theorem dX7_placeOf_6 : decode cX7_placeOf 6 = .ok (.getfield 7, 3) := by decide +kernel
theorem dX7_placeOf_9 : decode cX7_placeOf 9 = .ok (.bipush 29, 2) := by decide +kernel
theorem dX7_placeOf_11 : decode cX7_placeOf 11 = .ok (.iaload, 1) := by decide +kernel
theorem dX7_placeOf_12 : decode cX7_placeOf 12 = .ok (.if_icmp .ge 74, 3) := by decide +kernel
theorem dX7_placeOf_15 : decode cX7_placeOf 15 = .ok (.aload_n 0, 1) := by decide +kernel
theorem dX7_placeOf_16 : decode cX7_placeOf 16 = .ok (.iload_n 3, 1) := by decide +kernel
theorem dX7_placeOf_17 : decode cX7_placeOf 17 = .ok (.invokevirtual 55, 3) := by decide +kernel
theorem dX7_placeOf_20 : decode cX7_placeOf 20 = .ok (.aload_n 0, 1) := by decide +kernel
theorem dX7_placeOf_21 : decode cX7_placeOf 21 = .ok (.iload_n 1, 1) := by decide +kernel
theorem dX7_placeOf_22 : decode cX7_placeOf 22 = .ok (.invokevirtual 55, 3) := by decide +kernel
theorem dX7_placeOf_25 : decode cX7_placeOf 25 = .ok (.if_icmp .lt 21, 3) := by decide +kernel
theorem dX7_placeOf_28 : decode cX7_placeOf 28 = .ok (.aload_n 0, 1) := by decide +kernel
theorem dX7_placeOf_29 : decode cX7_placeOf 29 = .ok (.iload_n 3, 1) := by decide +kernel
theorem dX7_placeOf_30 : decode cX7_placeOf 30 = .ok (.invokevirtual 55, 3) := by decide +kernel
theorem dX7_placeOf_33 : decode cX7_placeOf 33 = .ok (.aload_n 0, 1) := by decide +kernel
theorem dX7_placeOf_34 : decode cX7_placeOf 34 = .ok (.iload_n 1, 1) := by decide +kernel
theorem dX7_placeOf_35 : decode cX7_placeOf 35 = .ok (.invokevirtual 55, 3) := by decide +kernel
theorem dX7_placeOf_38 : decode cX7_placeOf 38 = .ok (.if_icmp .ne 12, 3) := by decide +kernel
theorem dX7_placeOf_41 : decode cX7_placeOf 41 = .ok (.iload_n 3, 1) := by decide +kernel
theorem dX7_placeOf_42 : decode cX7_placeOf 42 = .ok (.iload_n 1, 1) := by decide +kernel
theorem dX7_placeOf_43 : decode cX7_placeOf 43 = .ok (.if_icmp .ge 7, 3) := by decide +kernel
theorem dX7_placeOf_46 : decode cX7_placeOf 46 = .ok (.iconst 1, 1) := by decide +kernel
theorem dX7_placeOf_47 : decode cX7_placeOf 47 = .ok (.goto 4, 3) := by decide +kernel
theorem dX7_placeOf_50 : decode cX7_placeOf 50 = .ok (.iconst 0, 1) := by decide +kernel
theorem dX7_placeOf_51 : decode cX7_placeOf 51 = .ok (.istore 4, 2) := by decide +kernel
theorem dX7_placeOf_53 : decode cX7_placeOf 53 = .ok (.iload_n 2, 1) := by decide +kernel
theorem dX7_placeOf_54 : decode cX7_placeOf 54 = .ok (.aload_n 0, 1) := by decide +kernel
theorem dX7_placeOf_55 : decode cX7_placeOf 55 = .ok (.iload_n 3, 1) := by decide +kernel
theorem dX7_placeOf_56 : decode cX7_placeOf 56 = .ok (.iconst 3, 1) := by decide +kernel
theorem dX7_placeOf_57 : decode cX7_placeOf 57 = .ok (.invokevirtual 38, 3) := by decide +kernel
theorem dX7_placeOf_60 : decode cX7_placeOf 60 = .ok (.ifCond .ne 17, 3) := by decide +kernel
theorem dX7_placeOf_63 : decode cX7_placeOf 63 = .ok (.iload_n 3, 1) := by decide +kernel
theorem dX7_placeOf_64 : decode cX7_placeOf 64 = .ok (.iload_n 1, 1) := by decide +kernel
theorem dX7_placeOf_65 : decode cX7_placeOf 65 = .ok (.if_icmp .eq 12, 3) := by decide +kernel
theorem dX7_placeOf_68 : decode cX7_placeOf 68 = .ok (.iload 4, 2) := by decide +kernel
theorem dX7_placeOf_70 : decode cX7_placeOf 70 = .ok (.ifCond .eq 7, 3) := by decide +kernel
theorem dX7_placeOf_73 : decode cX7_placeOf 73 = .ok (.iconst 1, 1) := by decide +kernel
theorem dX7_placeOf_74 : decode cX7_placeOf 74 = .ok (.goto 4, 3) := by decide +kernel
theorem dX7_placeOf_77 : decode cX7_placeOf 77 = .ok (.iconst 0, 1) := by decide +kernel
theorem dX7_placeOf_78 : decode cX7_placeOf 78 = .ok (.iadd, 1) := by decide +kernel
theorem dX7_placeOf_79 : decode cX7_placeOf 79 = .ok (.istore_n 2, 1) := by decide +kernel
theorem dX7_placeOf_80 : decode cX7_placeOf 80 = .ok (.iinc 3 1, 3) := by decide +kernel
theorem dX7_placeOf_83 : decode cX7_placeOf 83 = .ok (.goto (-79), 3) := by decide +kernel
theorem dX7_placeOf_86 : decode cX7_placeOf 86 = .ok (.iload_n 2, 1) := by decide +kernel
theorem dX7_placeOf_87 : decode cX7_placeOf 87 = .ok (.ireturn, 1) := by decide +kernel
theorem dX7_waitingAt_0 : decode cX7_waitingAt 0 = .ok (.iconst 0, 1) := by decide +kernel
theorem dX7_waitingAt_1 : decode cX7_waitingAt 1 = .ok (.istore_n 2, 1) := by decide +kernel
theorem dX7_waitingAt_2 : decode cX7_waitingAt 2 = .ok (.iload_n 2, 1) := by decide +kernel
theorem dX7_waitingAt_3 : decode cX7_waitingAt 3 = .ok (.aload_n 0, 1) := by decide +kernel
theorem dX7_waitingAt_4 : decode cX7_waitingAt 4 = .ok (.getfield 7, 3) := by decide +kernel
theorem dX7_waitingAt_7 : decode cX7_waitingAt 7 = .ok (.bipush 29, 2) := by decide +kernel
theorem dX7_waitingAt_9 : decode cX7_waitingAt 9 = .ok (.iaload, 1) := by decide +kernel
theorem dX7_waitingAt_10 : decode cX7_waitingAt 10 = .ok (.if_icmp .ge 29, 3) := by decide +kernel
theorem dX7_waitingAt_13 : decode cX7_waitingAt 13 = .ok (.aload_n 0, 1) := by decide +kernel
theorem dX7_waitingAt_14 : decode cX7_waitingAt 14 = .ok (.iload_n 2, 1) := by decide +kernel
theorem dX7_waitingAt_15 : decode cX7_waitingAt 15 = .ok (.iconst 3, 1) := by decide +kernel
theorem dX7_waitingAt_16 : decode cX7_waitingAt 16 = .ok (.invokevirtual 38, 3) := by decide +kernel
theorem dX7_waitingAt_19 : decode cX7_waitingAt 19 = .ok (.ifCond .ne 14, 3) := by decide +kernel
theorem dX7_waitingAt_22 : decode cX7_waitingAt 22 = .ok (.aload_n 0, 1) := by decide +kernel
theorem dX7_waitingAt_23 : decode cX7_waitingAt 23 = .ok (.iload_n 2, 1) := by decide +kernel
theorem dX7_waitingAt_24 : decode cX7_waitingAt 24 = .ok (.invokevirtual 58, 3) := by decide +kernel
theorem dX7_waitingAt_27 : decode cX7_waitingAt 27 = .ok (.iload_n 1, 1) := by decide +kernel
theorem dX7_waitingAt_28 : decode cX7_waitingAt 28 = .ok (.if_icmp .ne 5, 3) := by decide +kernel
theorem dX7_waitingAt_31 : decode cX7_waitingAt 31 = .ok (.iload_n 2, 1) := by decide +kernel
theorem dX7_waitingAt_32 : decode cX7_waitingAt 32 = .ok (.ireturn, 1) := by decide +kernel
theorem dX7_waitingAt_33 : decode cX7_waitingAt 33 = .ok (.iinc 2 1, 3) := by decide +kernel
theorem dX7_waitingAt_36 : decode cX7_waitingAt 36 = .ok (.goto (-34), 3) := by decide +kernel
theorem dX7_waitingAt_39 : decode cX7_waitingAt 39 = .ok (.iconst (-1), 1) := by decide +kernel
theorem dX7_waitingAt_40 : decode cX7_waitingAt 40 = .ok (.ireturn, 1) := by decide +kernel
theorem dX7_sacksIn_0 : decode cX7_sacksIn 0 = .ok (.iconst 0, 1) := by decide +kernel
theorem dX7_sacksIn_1 : decode cX7_sacksIn 1 = .ok (.istore_n 2, 1) := by decide +kernel
theorem dX7_sacksIn_2 : decode cX7_sacksIn 2 = .ok (.iconst 0, 1) := by decide +kernel
theorem dX7_sacksIn_3 : decode cX7_sacksIn 3 = .ok (.istore_n 3, 1) := by decide +kernel
theorem dX7_sacksIn_4 : decode cX7_sacksIn 4 = .ok (.iload_n 3, 1) := by decide +kernel
theorem dX7_sacksIn_5 : decode cX7_sacksIn 5 = .ok (.aload_n 0, 1) := by decide +kernel
theorem dX7_sacksIn_6 : decode cX7_sacksIn 6 = .ok (.getfield 7, 3) := by decide +kernel
theorem dX7_sacksIn_9 : decode cX7_sacksIn 9 = .ok (.bipush 29, 2) := by decide +kernel
theorem dX7_sacksIn_11 : decode cX7_sacksIn 11 = .ok (.iaload, 1) := by decide +kernel
theorem dX7_sacksIn_12 : decode cX7_sacksIn 12 = .ok (.if_icmp .ge 27, 3) := by decide +kernel
theorem dX7_sacksIn_15 : decode cX7_sacksIn 15 = .ok (.iload_n 2, 1) := by decide +kernel
theorem dX7_sacksIn_16 : decode cX7_sacksIn 16 = .ok (.aload_n 0, 1) := by decide +kernel
theorem dX7_sacksIn_17 : decode cX7_sacksIn 17 = .ok (.iload_n 3, 1) := by decide +kernel
theorem dX7_sacksIn_18 : decode cX7_sacksIn 18 = .ok (.iconst 3, 1) := by decide +kernel
theorem dX7_sacksIn_19 : decode cX7_sacksIn 19 = .ok (.invokevirtual 38, 3) := by decide +kernel
theorem dX7_sacksIn_22 : decode cX7_sacksIn 22 = .ok (.iload_n 1, 1) := by decide +kernel
theorem dX7_sacksIn_23 : decode cX7_sacksIn 23 = .ok (.if_icmp .ne 7, 3) := by decide +kernel
theorem dX7_sacksIn_26 : decode cX7_sacksIn 26 = .ok (.iconst 1, 1) := by decide +kernel
theorem dX7_sacksIn_27 : decode cX7_sacksIn 27 = .ok (.goto 4, 3) := by decide +kernel
theorem dX7_sacksIn_30 : decode cX7_sacksIn 30 = .ok (.iconst 0, 1) := by decide +kernel
theorem dX7_sacksIn_31 : decode cX7_sacksIn 31 = .ok (.iadd, 1) := by decide +kernel
theorem dX7_sacksIn_32 : decode cX7_sacksIn 32 = .ok (.istore_n 2, 1) := by decide +kernel
theorem dX7_sacksIn_33 : decode cX7_sacksIn 33 = .ok (.iinc 3 1, 3) := by decide +kernel
theorem dX7_sacksIn_36 : decode cX7_sacksIn 36 = .ok (.goto (-32), 3) := by decide +kernel
theorem dX7_sacksIn_39 : decode cX7_sacksIn 39 = .ok (.iload_n 2, 1) := by decide +kernel
theorem dX7_sacksIn_40 : decode cX7_sacksIn 40 = .ok (.ireturn, 1) := by decide +kernel
theorem dX7_sea_0 : decode cX7_sea 0 = .ok (.iload_n 1, 1) := by decide +kernel
theorem dX7_sea_1 : decode cX7_sea 1 = .ok (.aload_n 0, 1) := by decide +kernel
theorem dX7_sea_2 : decode cX7_sea 2 = .ok (.getfield 7, 3) := by decide +kernel
theorem dX7_sea_5 : decode cX7_sea 5 = .ok (.iconst 4, 1) := by decide +kernel
theorem dX7_sea_6 : decode cX7_sea 6 = .ok (.iaload, 1) := by decide +kernel
theorem dX7_sea_7 : decode cX7_sea 7 = .ok (.idiv, 1) := by decide +kernel
theorem dX7_sea_8 : decode cX7_sea 8 = .ok (.istore_n 2, 1) := by decide +kernel
theorem dX7_sea_9 : decode cX7_sea 9 = .ok (.iload_n 1, 1) := by decide +kernel
theorem dX7_sea_10 : decode cX7_sea 10 = .ok (.aload_n 0, 1) := by decide +kernel
theorem dX7_sea_11 : decode cX7_sea 11 = .ok (.getfield 7, 3) := by decide +kernel
theorem dX7_sea_14 : decode cX7_sea 14 = .ok (.iconst 4, 1) := by decide +kernel
theorem dX7_sea_15 : decode cX7_sea 15 = .ok (.iaload, 1) := by decide +kernel
theorem dX7_sea_16 : decode cX7_sea 16 = .ok (.irem, 1) := by decide +kernel
theorem dX7_sea_17 : decode cX7_sea 17 = .ok (.istore_n 3, 1) := by decide +kernel
theorem dX7_sea_18 : decode cX7_sea 18 = .ok (.aload_n 0, 1) := by decide +kernel
theorem dX7_sea_19 : decode cX7_sea 19 = .ok (.getfield 7, 3) := by decide +kernel
theorem dX7_sea_22 : decode cX7_sea 22 = .ok (.iconst 4, 1) := by decide +kernel
theorem dX7_sea_23 : decode cX7_sea 23 = .ok (.iaload, 1) := by decide +kernel
theorem dX7_sea_24 : decode cX7_sea 24 = .ok (.iconst 2, 1) := by decide +kernel
theorem dX7_sea_25 : decode cX7_sea 25 = .ok (.idiv, 1) := by decide +kernel
theorem dX7_sea_26 : decode cX7_sea 26 = .ok (.istore 4, 2) := by decide +kernel
theorem dX7_sea_28 : decode cX7_sea 28 = .ok (.iload_n 2, 1) := by decide +kernel
theorem dX7_sea_29 : decode cX7_sea 29 = .ok (.bipush 14, 2) := by decide +kernel
theorem dX7_sea_31 : decode cX7_sea 31 = .ok (.irem, 1) := by decide +kernel
theorem dX7_sea_32 : decode cX7_sea 32 = .ok (.bipush 7, 2) := by decide +kernel
theorem dX7_sea_34 : decode cX7_sea 34 = .ok (.isub, 1) := by decide +kernel
theorem dX7_sea_35 : decode cX7_sea 35 = .ok (.istore 5, 2) := by decide +kernel
theorem dX7_sea_37 : decode cX7_sea 37 = .ok (.aload_n 0, 1) := by decide +kernel
theorem dX7_sea_38 : decode cX7_sea 38 = .ok (.getfield 7, 3) := by decide +kernel
theorem dX7_sea_41 : decode cX7_sea 41 = .ok (.iconst 2, 1) := by decide +kernel
theorem dX7_sea_42 : decode cX7_sea 42 = .ok (.iaload, 1) := by decide +kernel
theorem dX7_sea_43 : decode cX7_sea 43 = .ok (.aload_n 0, 1) := by decide +kernel
theorem dX7_sea_44 : decode cX7_sea 44 = .ok (.getfield 7, 3) := by decide +kernel
theorem dX7_sea_47 : decode cX7_sea 47 = .ok (.iconst 3, 1) := by decide +kernel
theorem dX7_sea_48 : decode cX7_sea 48 = .ok (.iaload, 1) := by decide +kernel
theorem dX7_sea_49 : decode cX7_sea 49 = .ok (.iload 5, 2) := by decide +kernel
theorem dX7_sea_51 : decode cX7_sea 51 = .ok (.ifCond .ge 9, 3) := by decide +kernel
theorem dX7_sea_54 : decode cX7_sea 54 = .ok (.iload 5, 2) := by decide +kernel
theorem dX7_sea_56 : decode cX7_sea 56 = .ok (.ineg, 1) := by decide +kernel
theorem dX7_sea_57 : decode cX7_sea 57 = .ok (.goto 5, 3) := by decide +kernel
theorem dX7_sea_60 : decode cX7_sea 60 = .ok (.iload 5, 2) := by decide +kernel
theorem dX7_sea_62 : decode cX7_sea 62 = .ok (.imul, 1) := by decide +kernel
theorem dX7_sea_63 : decode cX7_sea 63 = .ok (.bipush 7, 2) := by decide +kernel
theorem dX7_sea_65 : decode cX7_sea 65 = .ok (.idiv, 1) := by decide +kernel
theorem dX7_sea_66 : decode cX7_sea 66 = .ok (.iadd, 1) := by decide +kernel
theorem dX7_sea_67 : decode cX7_sea 67 = .ok (.istore 6, 2) := by decide +kernel
theorem dX7_sea_69 : decode cX7_sea 69 = .ok (.aload_n 0, 1) := by decide +kernel
theorem dX7_sea_70 : decode cX7_sea 70 = .ok (.getfield 7, 3) := by decide +kernel
theorem dX7_sea_73 : decode cX7_sea 73 = .ok (.iconst 1, 1) := by decide +kernel
theorem dX7_sea_74 : decode cX7_sea 74 = .ok (.iaload, 1) := by decide +kernel
theorem dX7_sea_75 : decode cX7_sea 75 = .ok (.iload_n 3, 1) := by decide +kernel
theorem dX7_sea_76 : decode cX7_sea 76 = .ok (.iload 4, 2) := by decide +kernel
theorem dX7_sea_78 : decode cX7_sea 78 = .ok (.if_icmp .gt 13, 3) := by decide +kernel
theorem dX7_sea_81 : decode cX7_sea 81 = .ok (.iload 6, 2) := by decide +kernel
theorem dX7_sea_83 : decode cX7_sea 83 = .ok (.iload_n 3, 1) := by decide +kernel
theorem dX7_sea_84 : decode cX7_sea 84 = .ok (.imul, 1) := by decide +kernel
theorem dX7_sea_85 : decode cX7_sea 85 = .ok (.iload 4, 2) := by decide +kernel
theorem dX7_sea_87 : decode cX7_sea 87 = .ok (.idiv, 1) := by decide +kernel
theorem dX7_sea_88 : decode cX7_sea 88 = .ok (.goto 24, 3) := by decide +kernel
theorem dX7_sea_91 : decode cX7_sea 91 = .ok (.iload 6, 2) := by decide +kernel
theorem dX7_sea_93 : decode cX7_sea 93 = .ok (.aload_n 0, 1) := by decide +kernel
theorem dX7_sea_94 : decode cX7_sea 94 = .ok (.getfield 7, 3) := by decide +kernel
theorem dX7_sea_97 : decode cX7_sea 97 = .ok (.iconst 4, 1) := by decide +kernel
theorem dX7_sea_98 : decode cX7_sea 98 = .ok (.iaload, 1) := by decide +kernel
theorem dX7_sea_99 : decode cX7_sea 99 = .ok (.iload_n 3, 1) := by decide +kernel
theorem dX7_sea_100 : decode cX7_sea 100 = .ok (.isub, 1) := by decide +kernel
theorem dX7_sea_101 : decode cX7_sea 101 = .ok (.imul, 1) := by decide +kernel
theorem dX7_sea_102 : decode cX7_sea 102 = .ok (.aload_n 0, 1) := by decide +kernel
theorem dX7_sea_103 : decode cX7_sea 103 = .ok (.getfield 7, 3) := by decide +kernel
theorem dX7_sea_106 : decode cX7_sea 106 = .ok (.iconst 4, 1) := by decide +kernel
theorem dX7_sea_107 : decode cX7_sea 107 = .ok (.iaload, 1) := by decide +kernel
theorem dX7_sea_108 : decode cX7_sea 108 = .ok (.iload 4, 2) := by decide +kernel
theorem dX7_sea_110 : decode cX7_sea 110 = .ok (.isub, 1) := by decide +kernel
theorem dX7_sea_111 : decode cX7_sea 111 = .ok (.idiv, 1) := by decide +kernel
theorem dX7_sea_112 : decode cX7_sea 112 = .ok (.iadd, 1) := by decide +kernel
theorem dX7_sea_113 : decode cX7_sea 113 = .ok (.ireturn, 1) := by decide +kernel
theorem dX7_head_0 : decode cX7_head 0 = .ok (.aload_n 0, 1) := by decide +kernel
theorem dX7_head_1 : decode cX7_head 1 = .ok (.getfield 7, 3) := by decide +kernel
theorem dX7_head_4 : decode cX7_head 4 = .ok (.bipush 19, 2) := by decide +kernel
theorem dX7_head_6 : decode cX7_head 6 = .ok (.iaload, 1) := by decide +kernel
theorem dX7_head_7 : decode cX7_head 7 = .ok (.aload_n 0, 1) := by decide +kernel
theorem dX7_head_8 : decode cX7_head 8 = .ok (.getfield 7, 3) := by decide +kernel
theorem dX7_head_11 : decode cX7_head 11 = .ok (.iconst 0, 1) := by decide +kernel
theorem dX7_head_12 : decode cX7_head 12 = .ok (.iaload, 1) := by decide +kernel
theorem dX7_head_13 : decode cX7_head 13 = .ok (.idiv, 1) := by decide +kernel
theorem dX7_head_14 : decode cX7_head 14 = .ok (.aload_n 0, 1) := by decide +kernel
theorem dX7_head_15 : decode cX7_head 15 = .ok (.aload_n 0, 1) := by decide +kernel
theorem dX7_head_16 : decode cX7_head 16 = .ok (.getfield 7, 3) := by decide +kernel
theorem dX7_head_19 : decode cX7_head 19 = .ok (.bipush 26, 2) := by decide +kernel
theorem dX7_head_21 : decode cX7_head 21 = .ok (.iaload, 1) := by decide +kernel
theorem dX7_head_22 : decode cX7_head 22 = .ok (.invokevirtual 61, 3) := by decide +kernel
theorem dX7_head_25 : decode cX7_head 25 = .ok (.isub, 1) := by decide +kernel
theorem dX7_head_26 : decode cX7_head 26 = .ok (.ireturn, 1) := by decide +kernel
theorem dX7_falls_0 : decode cX7_falls 0 = .ok (.iconst 0, 1) := by decide +kernel
theorem dX7_falls_1 : decode cX7_falls 1 = .ok (.istore_n 1, 1) := by decide +kernel
theorem dX7_falls_2 : decode cX7_falls 2 = .ok (.iload_n 1, 1) := by decide +kernel
theorem dX7_falls_3 : decode cX7_falls 3 = .ok (.aload_n 0, 1) := by decide +kernel
theorem dX7_falls_4 : decode cX7_falls 4 = .ok (.getfield 7, 3) := by decide +kernel
theorem dX7_falls_7 : decode cX7_falls 7 = .ok (.bipush 29, 2) := by decide +kernel
theorem dX7_falls_9 : decode cX7_falls 9 = .ok (.iaload, 1) := by decide +kernel
theorem dX7_falls_10 : decode cX7_falls 10 = .ok (.if_icmp .ge 69, 3) := by decide +kernel
theorem dX7_falls_13 : decode cX7_falls 13 = .ok (.aload_n 0, 1) := by decide +kernel
theorem dX7_falls_14 : decode cX7_falls 14 = .ok (.iload_n 1, 1) := by decide +kernel
theorem dX7_falls_15 : decode cX7_falls 15 = .ok (.bipush 6, 2) := by decide +kernel
theorem dX7_falls_17 : decode cX7_falls 17 = .ok (.invokevirtual 38, 3) := by decide +kernel
theorem dX7_falls_20 : decode cX7_falls 20 = .ok (.ifCond .le 53, 3) := by decide +kernel
theorem dX7_falls_23 : decode cX7_falls 23 = .ok (.aload_n 0, 1) := by decide +kernel
theorem dX7_falls_24 : decode cX7_falls 24 = .ok (.iload_n 1, 1) := by decide +kernel
theorem dX7_falls_25 : decode cX7_falls 25 = .ok (.bipush 9, 2) := by decide +kernel
theorem dX7_falls_27 : decode cX7_falls 27 = .ok (.invokevirtual 38, 3) := by decide +kernel
theorem dX7_falls_30 : decode cX7_falls 30 = .ok (.aload_n 0, 1) := by decide +kernel
theorem dX7_falls_31 : decode cX7_falls 31 = .ok (.getfield 7, 3) := by decide +kernel
theorem dX7_falls_34 : decode cX7_falls 34 = .ok (.bipush 26, 2) := by decide +kernel
theorem dX7_falls_36 : decode cX7_falls 36 = .ok (.iaload, 1) := by decide +kernel
theorem dX7_falls_37 : decode cX7_falls 37 = .ok (.bipush 96, 2) := by decide +kernel
theorem dX7_falls_39 : decode cX7_falls 39 = .ok (.idiv, 1) := by decide +kernel
theorem dX7_falls_40 : decode cX7_falls 40 = .ok (.if_icmp .ge 33, 3) := by decide +kernel
theorem dX7_falls_43 : decode cX7_falls 43 = .ok (.aload_n 0, 1) := by decide +kernel
theorem dX7_falls_44 : decode cX7_falls 44 = .ok (.iload_n 1, 1) := by decide +kernel
theorem dX7_falls_45 : decode cX7_falls 45 = .ok (.bipush 10, 2) := by decide +kernel
theorem dX7_falls_47 : decode cX7_falls 47 = .ok (.aload_n 0, 1) := by decide +kernel
theorem dX7_falls_48 : decode cX7_falls 48 = .ok (.iload_n 1, 1) := by decide +kernel
theorem dX7_falls_49 : decode cX7_falls 49 = .ok (.bipush 10, 2) := by decide +kernel
theorem dX7_falls_51 : decode cX7_falls 51 = .ok (.invokevirtual 38, 3) := by decide +kernel
theorem dX7_falls_54 : decode cX7_falls 54 = .ok (.aload_n 0, 1) := by decide +kernel
theorem dX7_falls_55 : decode cX7_falls 55 = .ok (.iload_n 1, 1) := by decide +kernel
theorem dX7_falls_56 : decode cX7_falls 56 = .ok (.bipush 6, 2) := by decide +kernel
theorem dX7_falls_58 : decode cX7_falls 58 = .ok (.invokevirtual 38, 3) := by decide +kernel
theorem dX7_falls_61 : decode cX7_falls 61 = .ok (.iadd, 1) := by decide +kernel
theorem dX7_falls_62 : decode cX7_falls 62 = .ok (.invokevirtual 64, 3) := by decide +kernel
theorem dX7_falls_65 : decode cX7_falls 65 = .ok (.aload_n 0, 1) := by decide +kernel
theorem dX7_falls_66 : decode cX7_falls 66 = .ok (.iload_n 1, 1) := by decide +kernel
theorem dX7_falls_67 : decode cX7_falls 67 = .ok (.bipush 6, 2) := by decide +kernel
theorem dX7_falls_69 : decode cX7_falls 69 = .ok (.iconst 0, 1) := by decide +kernel
theorem dX7_falls_70 : decode cX7_falls 70 = .ok (.invokevirtual 64, 3) := by decide +kernel
theorem dX7_falls_73 : decode cX7_falls 73 = .ok (.iinc 1 1, 3) := by decide +kernel
theorem dX7_falls_76 : decode cX7_falls 76 = .ok (.goto (-74), 3) := by decide +kernel
theorem dX7_falls_79 : decode cX7_falls 79 = .ok (.return_, 1) := by decide +kernel
theorem dX7_flows_0 : decode cX7_flows 0 = .ok (.aload_n 0, 1) := by decide +kernel
theorem dX7_flows_1 : decode cX7_flows 1 = .ok (.invokevirtual 68, 3) := by decide +kernel
theorem dX7_flows_4 : decode cX7_flows 4 = .ok (.ineg, 1) := by decide +kernel
theorem dX7_flows_5 : decode cX7_flows 5 = .ok (.istore_n 1, 1) := by decide +kernel
theorem dX7_flows_6 : decode cX7_flows 6 = .ok (.aload_n 0, 1) := by decide +kernel
theorem dX7_flows_7 : decode cX7_flows 7 = .ok (.getfield 7, 3) := by decide +kernel
theorem dX7_flows_10 : decode cX7_flows 10 = .ok (.bipush 17, 2) := by decide +kernel
theorem dX7_flows_12 : decode cX7_flows 12 = .ok (.iaload, 1) := by decide +kernel
theorem dX7_flows_13 : decode cX7_flows 13 = .ok (.ifCond .ne 62, 3) := by decide +kernel
theorem dX7_flows_16 : decode cX7_flows 16 = .ok (.iload_n 1, 1) := by decide +kernel
theorem dX7_flows_17 : decode cX7_flows 17 = .ok (.ifCond .le 58, 3) := by decide +kernel
theorem dX7_flows_20 : decode cX7_flows 20 = .ok (.aload_n 0, 1) := by decide +kernel
theorem dX7_flows_21 : decode cX7_flows 21 = .ok (.getfield 7, 3) := by decide +kernel
theorem dX7_flows_24 : decode cX7_flows 24 = .ok (.iconst 5, 1) := by decide +kernel
theorem dX7_flows_25 : decode cX7_flows 25 = .ok (.iaload, 1) := by decide +kernel
theorem dX7_flows_26 : decode cX7_flows 26 = .ok (.aload_n 0, 1) := by decide +kernel
theorem dX7_flows_27 : decode cX7_flows 27 = .ok (.getfield 7, 3) := by decide +kernel
theorem dX7_flows_30 : decode cX7_flows 30 = .ok (.iconst 0, 1) := by decide +kernel
theorem dX7_flows_31 : decode cX7_flows 31 = .ok (.iaload, 1) := by decide +kernel
theorem dX7_flows_32 : decode cX7_flows 32 = .ok (.if_icmp .ge 12, 3) := by decide +kernel
theorem dX7_flows_35 : decode cX7_flows 35 = .ok (.aload_n 0, 1) := by decide +kernel
theorem dX7_flows_36 : decode cX7_flows 36 = .ok (.getfield 7, 3) := by decide +kernel
theorem dX7_flows_39 : decode cX7_flows 39 = .ok (.iconst 5, 1) := by decide +kernel
theorem dX7_flows_40 : decode cX7_flows 40 = .ok (.iaload, 1) := by decide +kernel
theorem dX7_flows_41 : decode cX7_flows 41 = .ok (.goto 9, 3) := by decide +kernel
theorem dX7_flows_44 : decode cX7_flows 44 = .ok (.aload_n 0, 1) := by decide +kernel
theorem dX7_flows_45 : decode cX7_flows 45 = .ok (.getfield 7, 3) := by decide +kernel
theorem dX7_flows_48 : decode cX7_flows 48 = .ok (.iconst 0, 1) := by decide +kernel
theorem dX7_flows_49 : decode cX7_flows 49 = .ok (.iaload, 1) := by decide +kernel
theorem dX7_flows_50 : decode cX7_flows 50 = .ok (.iload_n 1, 1) := by decide +kernel
theorem dX7_flows_51 : decode cX7_flows 51 = .ok (.imul, 1) := by decide +kernel
theorem dX7_flows_52 : decode cX7_flows 52 = .ok (.istore_n 2, 1) := by decide +kernel
theorem dX7_flows_53 : decode cX7_flows 53 = .ok (.aload_n 0, 1) := by decide +kernel
theorem dX7_flows_54 : decode cX7_flows 54 = .ok (.getfield 7, 3) := by decide +kernel
theorem dX7_flows_57 : decode cX7_flows 57 = .ok (.bipush 19, 2) := by decide +kernel
theorem dX7_flows_59 : decode cX7_flows 59 = .ok (.dup2, 1) := by decide +kernel
theorem dX7_flows_60 : decode cX7_flows 60 = .ok (.iaload, 1) := by decide +kernel
theorem dX7_flows_61 : decode cX7_flows 61 = .ok (.iload_n 2, 1) := by decide +kernel
theorem dX7_flows_62 : decode cX7_flows 62 = .ok (.iadd, 1) := by decide +kernel
theorem dX7_flows_63 : decode cX7_flows 63 = .ok (.iastore, 1) := by decide +kernel
theorem dX7_flows_64 : decode cX7_flows 64 = .ok (.aload_n 0, 1) := by decide +kernel
theorem dX7_flows_65 : decode cX7_flows 65 = .ok (.getfield 7, 3) := by decide +kernel
theorem dX7_flows_68 : decode cX7_flows 68 = .ok (.bipush 20, 2) := by decide +kernel
theorem dX7_flows_70 : decode cX7_flows 70 = .ok (.dup2, 1) := by decide +kernel
theorem dX7_flows_71 : decode cX7_flows 71 = .ok (.iaload, 1) := by decide +kernel
theorem dX7_flows_72 : decode cX7_flows 72 = .ok (.iload_n 2, 1) := by decide +kernel
theorem dX7_flows_73 : decode cX7_flows 73 = .ok (.iadd, 1) := by decide +kernel
theorem dX7_flows_74 : decode cX7_flows 74 = .ok (.iastore, 1) := by decide +kernel
theorem dX7_flows_75 : decode cX7_flows 75 = .ok (.aload_n 0, 1) := by decide +kernel
theorem dX7_flows_76 : decode cX7_flows 76 = .ok (.invokevirtual 68, 3) := by decide +kernel
theorem dX7_flows_79 : decode cX7_flows 79 = .ok (.istore_n 2, 1) := by decide +kernel
theorem dX7_flows_80 : decode cX7_flows 80 = .ok (.iconst 0, 1) := by decide +kernel
theorem dX7_flows_81 : decode cX7_flows 81 = .ok (.istore_n 3, 1) := by decide +kernel
theorem dX7_flows_82 : decode cX7_flows 82 = .ok (.iload_n 3, 1) := by decide +kernel
theorem dX7_flows_83 : decode cX7_flows 83 = .ok (.iconst 4, 1) := by decide +kernel
theorem dX7_flows_84 : decode cX7_flows 84 = .ok (.if_icmp .ge 76, 3) := by decide +kernel
theorem dX7_flows_87 : decode cX7_flows 87 = .ok (.iload_n 2, 1) := by decide +kernel
theorem dX7_flows_88 : decode cX7_flows 88 = .ok (.ifCond .le 72, 3) := by decide +kernel
theorem dX7_flows_91 : decode cX7_flows 91 = .ok (.aload_n 0, 1) := by decide +kernel
theorem dX7_flows_92 : decode cX7_flows 92 = .ok (.getfield 7, 3) := by decide +kernel
theorem dX7_flows_95 : decode cX7_flows 95 = .ok (.bipush 13, 2) := by decide +kernel
theorem dX7_flows_97 : decode cX7_flows 97 = .ok (.iload_n 3, 1) := by decide +kernel
theorem dX7_flows_98 : decode cX7_flows 98 = .ok (.iadd, 1) := by decide +kernel
theorem dX7_flows_99 : decode cX7_flows 99 = .ok (.iaload, 1) := by decide +kernel
theorem dX7_flows_100 : decode cX7_flows 100 = .ok (.iload_n 2, 1) := by decide +kernel
theorem dX7_flows_101 : decode cX7_flows 101 = .ok (.imul, 1) := by decide +kernel
theorem dX7_flows_102 : decode cX7_flows 102 = .ok (.istore 4, 2) := by decide +kernel
theorem dX7_flows_104 : decode cX7_flows 104 = .ok (.iload 4, 2) := by decide +kernel
theorem dX7_flows_106 : decode cX7_flows 106 = .ok (.aload_n 0, 1) := by decide +kernel
theorem dX7_flows_107 : decode cX7_flows 107 = .ok (.getfield 7, 3) := by decide +kernel
theorem dX7_flows_110 : decode cX7_flows 110 = .ok (.bipush 19, 2) := by decide +kernel
theorem dX7_flows_112 : decode cX7_flows 112 = .ok (.iaload, 1) := by decide +kernel
theorem dX7_flows_113 : decode cX7_flows 113 = .ok (.if_icmp .le 13, 3) := by decide +kernel
theorem dX7_flows_116 : decode cX7_flows 116 = .ok (.aload_n 0, 1) := by decide +kernel
theorem dX7_flows_117 : decode cX7_flows 117 = .ok (.getfield 7, 3) := by decide +kernel
theorem dX7_flows_120 : decode cX7_flows 120 = .ok (.bipush 19, 2) := by decide +kernel
theorem dX7_flows_122 : decode cX7_flows 122 = .ok (.iaload, 1) := by decide +kernel
theorem dX7_flows_123 : decode cX7_flows 123 = .ok (.goto 5, 3) := by decide +kernel
theorem dX7_flows_126 : decode cX7_flows 126 = .ok (.iload 4, 2) := by decide +kernel
theorem dX7_flows_128 : decode cX7_flows 128 = .ok (.istore 4, 2) := by decide +kernel
theorem dX7_flows_130 : decode cX7_flows 130 = .ok (.aload_n 0, 1) := by decide +kernel
theorem dX7_flows_131 : decode cX7_flows 131 = .ok (.getfield 7, 3) := by decide +kernel
theorem dX7_flows_134 : decode cX7_flows 134 = .ok (.bipush 19, 2) := by decide +kernel
theorem dX7_flows_136 : decode cX7_flows 136 = .ok (.dup2, 1) := by decide +kernel
theorem dX7_flows_137 : decode cX7_flows 137 = .ok (.iaload, 1) := by decide +kernel
theorem dX7_flows_138 : decode cX7_flows 138 = .ok (.iload 4, 2) := by decide +kernel
theorem dX7_flows_140 : decode cX7_flows 140 = .ok (.isub, 1) := by decide +kernel
theorem dX7_flows_141 : decode cX7_flows 141 = .ok (.iastore, 1) := by decide +kernel
theorem dX7_flows_142 : decode cX7_flows 142 = .ok (.aload_n 0, 1) := by decide +kernel
theorem dX7_flows_143 : decode cX7_flows 143 = .ok (.getfield 7, 3) := by decide +kernel
theorem dX7_flows_146 : decode cX7_flows 146 = .ok (.bipush 21, 2) := by decide +kernel
theorem dX7_flows_148 : decode cX7_flows 148 = .ok (.dup2, 1) := by decide +kernel
theorem dX7_flows_149 : decode cX7_flows 149 = .ok (.iaload, 1) := by decide +kernel
theorem dX7_flows_150 : decode cX7_flows 150 = .ok (.iload 4, 2) := by decide +kernel
theorem dX7_flows_152 : decode cX7_flows 152 = .ok (.iadd, 1) := by decide +kernel
theorem dX7_flows_153 : decode cX7_flows 153 = .ok (.iastore, 1) := by decide +kernel
theorem dX7_flows_154 : decode cX7_flows 154 = .ok (.iinc 3 1, 3) := by decide +kernel
theorem dX7_flows_157 : decode cX7_flows 157 = .ok (.goto (-75), 3) := by decide +kernel
theorem dX7_flows_160 : decode cX7_flows 160 = .ok (.return_, 1) := by decide +kernel
theorem dX7_comes_0 : decode cX7_comes 0 = .ok (.aload_n 0, 1) := by decide +kernel
theorem dX7_comes_1 : decode cX7_comes 1 = .ok (.getfield 7, 3) := by decide +kernel
theorem dX7_comes_4 : decode cX7_comes 4 = .ok (.bipush 24, 2) := by decide +kernel
theorem dX7_comes_6 : decode cX7_comes 6 = .ok (.iload_n 1, 1) := by decide +kernel
theorem dX7_comes_7 : decode cX7_comes 7 = .ok (.iastore, 1) := by decide +kernel
theorem dX7_comes_8 : decode cX7_comes 8 = .ok (.aload_n 0, 1) := by decide +kernel
theorem dX7_comes_9 : decode cX7_comes 9 = .ok (.getfield 7, 3) := by decide +kernel
theorem dX7_comes_12 : decode cX7_comes 12 = .ok (.bipush 25, 2) := by decide +kernel
theorem dX7_comes_14 : decode cX7_comes 14 = .ok (.aload_n 0, 1) := by decide +kernel
theorem dX7_comes_15 : decode cX7_comes 15 = .ok (.iload_n 1, 1) := by decide +kernel
theorem dX7_comes_16 : decode cX7_comes 16 = .ok (.iconst 1, 1) := by decide +kernel
theorem dX7_comes_17 : decode cX7_comes 17 = .ok (.invokevirtual 38, 3) := by decide +kernel
theorem dX7_comes_20 : decode cX7_comes 20 = .ok (.iastore, 1) := by decide +kernel
theorem dX7_comes_21 : decode cX7_comes 21 = .ok (.aload_n 0, 1) := by decide +kernel
theorem dX7_comes_22 : decode cX7_comes 22 = .ok (.iload_n 1, 1) := by decide +kernel
theorem dX7_comes_23 : decode cX7_comes 23 = .ok (.iconst 3, 1) := by decide +kernel
theorem dX7_comes_24 : decode cX7_comes 24 = .ok (.iconst 1, 1) := by decide +kernel
theorem dX7_comes_25 : decode cX7_comes 25 = .ok (.invokevirtual 64, 3) := by decide +kernel
theorem dX7_comes_28 : decode cX7_comes 28 = .ok (.aload_n 0, 1) := by decide +kernel
theorem dX7_comes_29 : decode cX7_comes 29 = .ok (.iload_n 1, 1) := by decide +kernel
theorem dX7_comes_30 : decode cX7_comes 30 = .ok (.bipush 12, 2) := by decide +kernel
theorem dX7_comes_32 : decode cX7_comes 32 = .ok (.iconst 1, 1) := by decide +kernel
theorem dX7_comes_33 : decode cX7_comes 33 = .ok (.invokevirtual 64, 3) := by decide +kernel
theorem dX7_comes_36 : decode cX7_comes 36 = .ok (.aload_n 0, 1) := by decide +kernel
theorem dX7_comes_37 : decode cX7_comes 37 = .ok (.iload_n 1, 1) := by decide +kernel
theorem dX7_comes_38 : decode cX7_comes 38 = .ok (.iconst 5, 1) := by decide +kernel
theorem dX7_comes_39 : decode cX7_comes 39 = .ok (.aload_n 0, 1) := by decide +kernel
theorem dX7_comes_40 : decode cX7_comes 40 = .ok (.getfield 7, 3) := by decide +kernel
theorem dX7_comes_43 : decode cX7_comes 43 = .ok (.bipush 8, 2) := by decide +kernel
theorem dX7_comes_45 : decode cX7_comes 45 = .ok (.iaload, 1) := by decide +kernel
theorem dX7_comes_46 : decode cX7_comes 46 = .ok (.invokevirtual 64, 3) := by decide +kernel
theorem dX7_comes_49 : decode cX7_comes 49 = .ok (.return_, 1) := by decide +kernel
theorem dX7_grinds_0 : decode cX7_grinds 0 = .ok (.aload_n 0, 1) := by decide +kernel
theorem dX7_grinds_1 : decode cX7_grinds 1 = .ok (.invokevirtual 68, 3) := by decide +kernel
theorem dX7_grinds_4 : decode cX7_grinds 4 = .ok (.istore_n 1, 1) := by decide +kernel
theorem dX7_grinds_5 : decode cX7_grinds 5 = .ok (.aload_n 0, 1) := by decide +kernel
theorem dX7_grinds_6 : decode cX7_grinds 6 = .ok (.getfield 7, 3) := by decide +kernel
theorem dX7_grinds_9 : decode cX7_grinds 9 = .ok (.bipush 18, 2) := by decide +kernel
theorem dX7_grinds_11 : decode cX7_grinds 11 = .ok (.iaload, 1) := by decide +kernel
theorem dX7_grinds_12 : decode cX7_grinds 12 = .ok (.aload_n 0, 1) := by decide +kernel
theorem dX7_grinds_13 : decode cX7_grinds 13 = .ok (.getfield 7, 3) := by decide +kernel
theorem dX7_grinds_16 : decode cX7_grinds 16 = .ok (.bipush 7, 2) := by decide +kernel
theorem dX7_grinds_18 : decode cX7_grinds 18 = .ok (.iaload, 1) := by decide +kernel
theorem dX7_grinds_19 : decode cX7_grinds 19 = .ok (.imul, 1) := by decide +kernel
theorem dX7_grinds_20 : decode cX7_grinds 20 = .ok (.istore_n 2, 1) := by decide +kernel
theorem dX7_grinds_21 : decode cX7_grinds 21 = .ok (.aload_n 0, 1) := by decide +kernel
theorem dX7_grinds_22 : decode cX7_grinds 22 = .ok (.getfield 7, 3) := by decide +kernel
theorem dX7_grinds_25 : decode cX7_grinds 25 = .ok (.bipush 18, 2) := by decide +kernel
theorem dX7_grinds_27 : decode cX7_grinds 27 = .ok (.iaload, 1) := by decide +kernel
theorem dX7_grinds_28 : decode cX7_grinds 28 = .ok (.ifCond .eq 48, 3) := by decide +kernel
theorem dX7_grinds_31 : decode cX7_grinds 31 = .ok (.iload_n 1, 1) := by decide +kernel
theorem dX7_grinds_32 : decode cX7_grinds 32 = .ok (.ifCond .le 44, 3) := by decide +kernel
theorem dX7_grinds_35 : decode cX7_grinds 35 = .ok (.iload_n 1, 1) := by decide +kernel
theorem dX7_grinds_36 : decode cX7_grinds 36 = .ok (.aload_n 0, 1) := by decide +kernel
theorem dX7_grinds_37 : decode cX7_grinds 37 = .ok (.getfield 7, 3) := by decide +kernel
theorem dX7_grinds_40 : decode cX7_grinds 40 = .ok (.bipush 6, 2) := by decide +kernel
theorem dX7_grinds_42 : decode cX7_grinds 42 = .ok (.iaload, 1) := by decide +kernel
theorem dX7_grinds_43 : decode cX7_grinds 43 = .ok (.if_icmp .lt 33, 3) := by decide +kernel
theorem dX7_grinds_46 : decode cX7_grinds 46 = .ok (.aload_n 0, 1) := by decide +kernel
theorem dX7_grinds_47 : decode cX7_grinds 47 = .ok (.getfield 7, 3) := by decide +kernel
theorem dX7_grinds_50 : decode cX7_grinds 50 = .ok (.bipush 19, 2) := by decide +kernel
theorem dX7_grinds_52 : decode cX7_grinds 52 = .ok (.iaload, 1) := by decide +kernel
theorem dX7_grinds_53 : decode cX7_grinds 53 = .ok (.iload_n 2, 1) := by decide +kernel
theorem dX7_grinds_54 : decode cX7_grinds 54 = .ok (.if_icmp .lt 22, 3) := by decide +kernel
theorem dX7_grinds_57 : decode cX7_grinds 57 = .ok (.aload_n 0, 1) := by decide +kernel
theorem dX7_grinds_58 : decode cX7_grinds 58 = .ok (.getfield 7, 3) := by decide +kernel
theorem dX7_grinds_61 : decode cX7_grinds 61 = .ok (.bipush 24, 2) := by decide +kernel
theorem dX7_grinds_63 : decode cX7_grinds 63 = .ok (.iaload, 1) := by decide +kernel
theorem dX7_grinds_64 : decode cX7_grinds 64 = .ok (.iconst (-1), 1) := by decide +kernel
theorem dX7_grinds_65 : decode cX7_grinds 65 = .ok (.if_icmp .ne 12, 3) := by decide +kernel
theorem dX7_grinds_68 : decode cX7_grinds 68 = .ok (.aload_n 0, 1) := by decide +kernel
theorem dX7_grinds_69 : decode cX7_grinds 69 = .ok (.iconst 0, 1) := by decide +kernel
theorem dX7_grinds_70 : decode cX7_grinds 70 = .ok (.invokevirtual 72, 3) := by decide +kernel
theorem dX7_grinds_73 : decode cX7_grinds 73 = .ok (.ifCond .ne 4, 3) := by decide +kernel
theorem dX7_grinds_76 : decode cX7_grinds 76 = .ok (.return_, 1) := by decide +kernel
theorem dX7_grinds_77 : decode cX7_grinds 77 = .ok (.aload_n 0, 1) := by decide +kernel
theorem dX7_grinds_78 : decode cX7_grinds 78 = .ok (.getfield 7, 3) := by decide +kernel
theorem dX7_grinds_81 : decode cX7_grinds 81 = .ok (.bipush 24, 2) := by decide +kernel
theorem dX7_grinds_83 : decode cX7_grinds 83 = .ok (.iaload, 1) := by decide +kernel
theorem dX7_grinds_84 : decode cX7_grinds 84 = .ok (.iconst (-1), 1) := by decide +kernel
theorem dX7_grinds_85 : decode cX7_grinds 85 = .ok (.if_icmp .ne 12, 3) := by decide +kernel
theorem dX7_grinds_88 : decode cX7_grinds 88 = .ok (.aload_n 0, 1) := by decide +kernel
theorem dX7_grinds_89 : decode cX7_grinds 89 = .ok (.aload_n 0, 1) := by decide +kernel
theorem dX7_grinds_90 : decode cX7_grinds 90 = .ok (.iconst 0, 1) := by decide +kernel
theorem dX7_grinds_91 : decode cX7_grinds 91 = .ok (.invokevirtual 75, 3) := by decide +kernel
theorem dX7_grinds_94 : decode cX7_grinds 94 = .ok (.invokevirtual 78, 3) := by decide +kernel
theorem dX7_grinds_97 : decode cX7_grinds 97 = .ok (.aload_n 0, 1) := by decide +kernel
theorem dX7_grinds_98 : decode cX7_grinds 98 = .ok (.getfield 7, 3) := by decide +kernel
theorem dX7_grinds_101 : decode cX7_grinds 101 = .ok (.bipush 24, 2) := by decide +kernel
theorem dX7_grinds_103 : decode cX7_grinds 103 = .ok (.iaload, 1) := by decide +kernel
theorem dX7_grinds_104 : decode cX7_grinds 104 = .ok (.istore_n 3, 1) := by decide +kernel
theorem dX7_grinds_105 : decode cX7_grinds 105 = .ok (.aload_n 0, 1) := by decide +kernel
theorem dX7_grinds_106 : decode cX7_grinds 106 = .ok (.getfield 7, 3) := by decide +kernel
theorem dX7_grinds_109 : decode cX7_grinds 109 = .ok (.bipush 19, 2) := by decide +kernel
theorem dX7_grinds_111 : decode cX7_grinds 111 = .ok (.dup2, 1) := by decide +kernel
theorem dX7_grinds_112 : decode cX7_grinds 112 = .ok (.iaload, 1) := by decide +kernel
theorem dX7_grinds_113 : decode cX7_grinds 113 = .ok (.iload_n 2, 1) := by decide +kernel
theorem dX7_grinds_114 : decode cX7_grinds 114 = .ok (.isub, 1) := by decide +kernel
theorem dX7_grinds_115 : decode cX7_grinds 115 = .ok (.iastore, 1) := by decide +kernel
theorem dX7_grinds_116 : decode cX7_grinds 116 = .ok (.aload_n 0, 1) := by decide +kernel
theorem dX7_grinds_117 : decode cX7_grinds 117 = .ok (.getfield 7, 3) := by decide +kernel
theorem dX7_grinds_120 : decode cX7_grinds 120 = .ok (.bipush 22, 2) := by decide +kernel
theorem dX7_grinds_122 : decode cX7_grinds 122 = .ok (.dup2, 1) := by decide +kernel
theorem dX7_grinds_123 : decode cX7_grinds 123 = .ok (.iaload, 1) := by decide +kernel
theorem dX7_grinds_124 : decode cX7_grinds 124 = .ok (.iload_n 2, 1) := by decide +kernel
theorem dX7_grinds_125 : decode cX7_grinds 125 = .ok (.iadd, 1) := by decide +kernel
theorem dX7_grinds_126 : decode cX7_grinds 126 = .ok (.iastore, 1) := by decide +kernel
theorem dX7_grinds_127 : decode cX7_grinds 127 = .ok (.aload_n 0, 1) := by decide +kernel
theorem dX7_grinds_128 : decode cX7_grinds 128 = .ok (.getfield 7, 3) := by decide +kernel
theorem dX7_grinds_131 : decode cX7_grinds 131 = .ok (.bipush 18, 2) := by decide +kernel
theorem dX7_grinds_133 : decode cX7_grinds 133 = .ok (.iaload, 1) := by decide +kernel
theorem dX7_grinds_134 : decode cX7_grinds 134 = .ok (.iload_n 1, 1) := by decide +kernel
theorem dX7_grinds_135 : decode cX7_grinds 135 = .ok (.imul, 1) := by decide +kernel
theorem dX7_grinds_136 : decode cX7_grinds 136 = .ok (.aload_n 0, 1) := by decide +kernel
theorem dX7_grinds_137 : decode cX7_grinds 137 = .ok (.aload_n 0, 1) := by decide +kernel
theorem dX7_grinds_138 : decode cX7_grinds 138 = .ok (.iload_n 3, 1) := by decide +kernel
theorem dX7_grinds_139 : decode cX7_grinds 139 = .ok (.iconst 1, 1) := by decide +kernel
theorem dX7_grinds_140 : decode cX7_grinds 140 = .ok (.invokevirtual 38, 3) := by decide +kernel
theorem dX7_grinds_143 : decode cX7_grinds 143 = .ok (.invokevirtual 52, 3) := by decide +kernel
theorem dX7_grinds_146 : decode cX7_grinds 146 = .ok (.idiv, 1) := by decide +kernel
theorem dX7_grinds_147 : decode cX7_grinds 147 = .ok (.istore 4, 2) := by decide +kernel
theorem dX7_grinds_149 : decode cX7_grinds 149 = .ok (.iload 4, 2) := by decide +kernel
theorem dX7_grinds_151 : decode cX7_grinds 151 = .ok (.iconst 1, 1) := by decide +kernel
theorem dX7_grinds_152 : decode cX7_grinds 152 = .ok (.if_icmp .ge 7, 3) := by decide +kernel
theorem dX7_grinds_155 : decode cX7_grinds 155 = .ok (.iconst 1, 1) := by decide +kernel
theorem dX7_grinds_156 : decode cX7_grinds 156 = .ok (.goto 5, 3) := by decide +kernel
theorem dX7_grinds_159 : decode cX7_grinds 159 = .ok (.iload 4, 2) := by decide +kernel
theorem dX7_grinds_161 : decode cX7_grinds 161 = .ok (.istore 4, 2) := by decide +kernel
theorem dX7_grinds_163 : decode cX7_grinds 163 = .ok (.iload 4, 2) := by decide +kernel
theorem dX7_grinds_165 : decode cX7_grinds 165 = .ok (.aload_n 0, 1) := by decide +kernel
theorem dX7_grinds_166 : decode cX7_grinds 166 = .ok (.iload_n 3, 1) := by decide +kernel
theorem dX7_grinds_167 : decode cX7_grinds 167 = .ok (.invokevirtual 82, 3) := by decide +kernel
theorem dX7_grinds_170 : decode cX7_grinds 170 = .ok (.if_icmp .le 11, 3) := by decide +kernel
theorem dX7_grinds_173 : decode cX7_grinds 173 = .ok (.aload_n 0, 1) := by decide +kernel
theorem dX7_grinds_174 : decode cX7_grinds 174 = .ok (.iload_n 3, 1) := by decide +kernel
theorem dX7_grinds_175 : decode cX7_grinds 175 = .ok (.invokevirtual 82, 3) := by decide +kernel
theorem dX7_grinds_178 : decode cX7_grinds 178 = .ok (.goto 5, 3) := by decide +kernel
theorem dX7_grinds_181 : decode cX7_grinds 181 = .ok (.iload 4, 2) := by decide +kernel
theorem dX7_grinds_183 : decode cX7_grinds 183 = .ok (.istore 4, 2) := by decide +kernel
theorem dX7_grinds_185 : decode cX7_grinds 185 = .ok (.aload_n 0, 1) := by decide +kernel
theorem dX7_grinds_186 : decode cX7_grinds 186 = .ok (.iload_n 3, 1) := by decide +kernel
theorem dX7_grinds_187 : decode cX7_grinds 187 = .ok (.iconst 4, 1) := by decide +kernel
theorem dX7_grinds_188 : decode cX7_grinds 188 = .ok (.aload_n 0, 1) := by decide +kernel
theorem dX7_grinds_189 : decode cX7_grinds 189 = .ok (.iload_n 3, 1) := by decide +kernel
theorem dX7_grinds_190 : decode cX7_grinds 190 = .ok (.iconst 4, 1) := by decide +kernel
theorem dX7_grinds_191 : decode cX7_grinds 191 = .ok (.invokevirtual 38, 3) := by decide +kernel
theorem dX7_grinds_194 : decode cX7_grinds 194 = .ok (.iload 4, 2) := by decide +kernel
theorem dX7_grinds_196 : decode cX7_grinds 196 = .ok (.iadd, 1) := by decide +kernel
theorem dX7_grinds_197 : decode cX7_grinds 197 = .ok (.invokevirtual 64, 3) := by decide +kernel
theorem dX7_grinds_200 : decode cX7_grinds 200 = .ok (.aload_n 0, 1) := by decide +kernel
theorem dX7_grinds_201 : decode cX7_grinds 201 = .ok (.getfield 7, 3) := by decide +kernel
theorem dX7_grinds_204 : decode cX7_grinds 204 = .ok (.bipush 23, 2) := by decide +kernel
theorem dX7_grinds_206 : decode cX7_grinds 206 = .ok (.dup2, 1) := by decide +kernel
theorem dX7_grinds_207 : decode cX7_grinds 207 = .ok (.iaload, 1) := by decide +kernel
theorem dX7_grinds_208 : decode cX7_grinds 208 = .ok (.iload 4, 2) := by decide +kernel
theorem dX7_grinds_210 : decode cX7_grinds 210 = .ok (.iadd, 1) := by decide +kernel
theorem dX7_grinds_211 : decode cX7_grinds 211 = .ok (.iastore, 1) := by decide +kernel
theorem dX7_grinds_212 : decode cX7_grinds 212 = .ok (.aload_n 0, 1) := by decide +kernel
theorem dX7_grinds_213 : decode cX7_grinds 213 = .ok (.iload_n 3, 1) := by decide +kernel
theorem dX7_grinds_214 : decode cX7_grinds 214 = .ok (.invokevirtual 82, 3) := by decide +kernel
theorem dX7_grinds_217 : decode cX7_grinds 217 = .ok (.ifCond .ne 18, 3) := by decide +kernel
theorem dX7_grinds_220 : decode cX7_grinds 220 = .ok (.aload_n 0, 1) := by decide +kernel
theorem dX7_grinds_221 : decode cX7_grinds 221 = .ok (.iload_n 3, 1) := by decide +kernel
theorem dX7_grinds_222 : decode cX7_grinds 222 = .ok (.iconst 3, 1) := by decide +kernel
theorem dX7_grinds_223 : decode cX7_grinds 223 = .ok (.iconst 2, 1) := by decide +kernel
theorem dX7_grinds_224 : decode cX7_grinds 224 = .ok (.invokevirtual 64, 3) := by decide +kernel
theorem dX7_grinds_227 : decode cX7_grinds 227 = .ok (.aload_n 0, 1) := by decide +kernel
theorem dX7_grinds_228 : decode cX7_grinds 228 = .ok (.getfield 7, 3) := by decide +kernel
theorem dX7_grinds_231 : decode cX7_grinds 231 = .ok (.bipush 24, 2) := by decide +kernel
theorem dX7_grinds_233 : decode cX7_grinds 233 = .ok (.iconst (-1), 1) := by decide +kernel
theorem dX7_grinds_234 : decode cX7_grinds 234 = .ok (.iastore, 1) := by decide +kernel
theorem dX7_grinds_235 : decode cX7_grinds 235 = .ok (.return_, 1) := by decide +kernel
theorem dX7_goes_0 : decode cX7_goes 0 = .ok (.aload_n 0, 1) := by decide +kernel
theorem dX7_goes_1 : decode cX7_goes 1 = .ok (.getfield 7, 3) := by decide +kernel
theorem dX7_goes_4 : decode cX7_goes 4 = .ok (.bipush 26, 2) := by decide +kernel
theorem dX7_goes_6 : decode cX7_goes 6 = .ok (.dup2, 1) := by decide +kernel
theorem dX7_goes_7 : decode cX7_goes 7 = .ok (.iaload, 1) := by decide +kernel
theorem dX7_goes_8 : decode cX7_goes 8 = .ok (.iconst 1, 1) := by decide +kernel
theorem dX7_goes_9 : decode cX7_goes 9 = .ok (.iadd, 1) := by decide +kernel
theorem dX7_goes_10 : decode cX7_goes 10 = .ok (.iastore, 1) := by decide +kernel
theorem dX7_goes_11 : decode cX7_goes 11 = .ok (.aload_n 0, 1) := by decide +kernel
theorem dX7_goes_12 : decode cX7_goes 12 = .ok (.getfield 7, 3) := by decide +kernel
theorem dX7_goes_15 : decode cX7_goes 15 = .ok (.bipush 26, 2) := by decide +kernel
theorem dX7_goes_17 : decode cX7_goes 17 = .ok (.iaload, 1) := by decide +kernel
theorem dX7_goes_18 : decode cX7_goes 18 = .ok (.bipush 96, 2) := by decide +kernel
theorem dX7_goes_20 : decode cX7_goes 20 = .ok (.irem, 1) := by decide +kernel
theorem dX7_goes_21 : decode cX7_goes 21 = .ok (.ifCond .ne 7, 3) := by decide +kernel
theorem dX7_goes_24 : decode cX7_goes 24 = .ok (.aload_n 0, 1) := by decide +kernel
theorem dX7_goes_25 : decode cX7_goes 25 = .ok (.invokevirtual 85, 3) := by decide +kernel
theorem dX7_goes_28 : decode cX7_goes 28 = .ok (.aload_n 0, 1) := by decide +kernel
theorem dX7_goes_29 : decode cX7_goes 29 = .ok (.invokevirtual 88, 3) := by decide +kernel
theorem dX7_goes_32 : decode cX7_goes 32 = .ok (.aload_n 0, 1) := by decide +kernel
theorem dX7_goes_33 : decode cX7_goes 33 = .ok (.invokevirtual 91, 3) := by decide +kernel
theorem dX7_goes_36 : decode cX7_goes 36 = .ok (.return_, 1) := by decide +kernel
theorem dX7_gates_0 : decode cX7_gates 0 = .ok (.iload_n 1, 1) := by decide +kernel
theorem dX7_gates_1 : decode cX7_gates 1 = .ok (.iconst 0, 1) := by decide +kernel
theorem dX7_gates_2 : decode cX7_gates 2 = .ok (.iconst 3, 1) := by decide +kernel
theorem dX7_gates_3 : decode cX7_gates 3 = .ok (.invokestatic 29, 3) := by decide +kernel
theorem dX7_gates_6 : decode cX7_gates 6 = .ok (.ifCond .ne 6, 3) := by decide +kernel
theorem dX7_gates_9 : decode cX7_gates 9 = .ok (.ldc 33, 2) := by decide +kernel
theorem dX7_gates_11 : decode cX7_gates 11 = .ok (.ireturn, 1) := by decide +kernel
theorem dX7_gates_12 : decode cX7_gates 12 = .ok (.aload_n 0, 1) := by decide +kernel
theorem dX7_gates_13 : decode cX7_gates 13 = .ok (.getfield 7, 3) := by decide +kernel
theorem dX7_gates_16 : decode cX7_gates 16 = .ok (.bipush 18, 2) := by decide +kernel
theorem dX7_gates_18 : decode cX7_gates 18 = .ok (.iaload, 1) := by decide +kernel
theorem dX7_gates_19 : decode cX7_gates 19 = .ok (.istore_n 2, 1) := by decide +kernel
theorem dX7_gates_20 : decode cX7_gates 20 = .ok (.aload_n 0, 1) := by decide +kernel
theorem dX7_gates_21 : decode cX7_gates 21 = .ok (.getfield 7, 3) := by decide +kernel
theorem dX7_gates_24 : decode cX7_gates 24 = .ok (.bipush 18, 2) := by decide +kernel
theorem dX7_gates_26 : decode cX7_gates 26 = .ok (.iload_n 1, 1) := by decide +kernel
theorem dX7_gates_27 : decode cX7_gates 27 = .ok (.iastore, 1) := by decide +kernel
theorem dX7_gates_28 : decode cX7_gates 28 = .ok (.iload_n 2, 1) := by decide +kernel
theorem dX7_gates_29 : decode cX7_gates 29 = .ok (.ireturn, 1) := by decide +kernel
theorem dX7_brings_0 : decode cX7_brings 0 = .ok (.aload_n 0, 1) := by decide +kernel
theorem dX7_brings_1 : decode cX7_brings 1 = .ok (.iload_n 1, 1) := by decide +kernel
theorem dX7_brings_2 : decode cX7_brings 2 = .ok (.invokevirtual 94, 3) := by decide +kernel
theorem dX7_brings_5 : decode cX7_brings 5 = .ok (.ifCond .eq 22, 3) := by decide +kernel
theorem dX7_brings_8 : decode cX7_brings 8 = .ok (.aload_n 0, 1) := by decide +kernel
theorem dX7_brings_9 : decode cX7_brings 9 = .ok (.iload_n 2, 1) := by decide +kernel
theorem dX7_brings_10 : decode cX7_brings 10 = .ok (.invokevirtual 98, 3) := by decide +kernel
theorem dX7_brings_13 : decode cX7_brings 13 = .ok (.ifCond .eq 14, 3) := by decide +kernel
theorem dX7_brings_16 : decode cX7_brings 16 = .ok (.iload_n 3, 1) := by decide +kernel
theorem dX7_brings_17 : decode cX7_brings 17 = .ok (.iconst 1, 1) := by decide +kernel
theorem dX7_brings_18 : decode cX7_brings 18 = .ok (.sipush 200, 3) := by decide +kernel
theorem dX7_brings_21 : decode cX7_brings 21 = .ok (.invokestatic 29, 3) := by decide +kernel
theorem dX7_brings_24 : decode cX7_brings 24 = .ok (.ifCond .ne 6, 3) := by decide +kernel
theorem dX7_brings_27 : decode cX7_brings 27 = .ok (.ldc 33, 2) := by decide +kernel
theorem dX7_brings_29 : decode cX7_brings 29 = .ok (.ireturn, 1) := by decide +kernel
theorem dX7_brings_30 : decode cX7_brings 30 = .ok (.aload_n 0, 1) := by decide +kernel
theorem dX7_brings_31 : decode cX7_brings 31 = .ok (.getfield 7, 3) := by decide +kernel
theorem dX7_brings_34 : decode cX7_brings 34 = .ok (.bipush 29, 2) := by decide +kernel
theorem dX7_brings_36 : decode cX7_brings 36 = .ok (.iaload, 1) := by decide +kernel
theorem dX7_brings_37 : decode cX7_brings 37 = .ok (.bipush 24, 2) := by decide +kernel
theorem dX7_brings_39 : decode cX7_brings 39 = .ok (.if_icmp .ne 6, 3) := by decide +kernel
theorem dX7_brings_42 : decode cX7_brings 42 = .ok (.ldc 101, 2) := by decide +kernel
theorem dX7_brings_44 : decode cX7_brings 44 = .ok (.ireturn, 1) := by decide +kernel
theorem dX7_brings_45 : decode cX7_brings 45 = .ok (.aload_n 0, 1) := by decide +kernel
theorem dX7_brings_46 : decode cX7_brings 46 = .ok (.getfield 7, 3) := by decide +kernel
theorem dX7_brings_49 : decode cX7_brings 49 = .ok (.bipush 29, 2) := by decide +kernel
theorem dX7_brings_51 : decode cX7_brings 51 = .ok (.iaload, 1) := by decide +kernel
theorem dX7_brings_52 : decode cX7_brings 52 = .ok (.istore 4, 2) := by decide +kernel
theorem dX7_brings_54 : decode cX7_brings 54 = .ok (.iconst 0, 1) := by decide +kernel
theorem dX7_brings_55 : decode cX7_brings 55 = .ok (.istore 5, 2) := by decide +kernel
theorem dX7_brings_57 : decode cX7_brings 57 = .ok (.iload 5, 2) := by decide +kernel
theorem dX7_brings_59 : decode cX7_brings 59 = .ok (.bipush 13, 2) := by decide +kernel
theorem dX7_brings_61 : decode cX7_brings 61 = .ok (.if_icmp .ge 18, 3) := by decide +kernel
theorem dX7_brings_64 : decode cX7_brings 64 = .ok (.aload_n 0, 1) := by decide +kernel
theorem dX7_brings_65 : decode cX7_brings 65 = .ok (.iload 4, 2) := by decide +kernel
theorem dX7_brings_67 : decode cX7_brings 67 = .ok (.iload 5, 2) := by decide +kernel
theorem dX7_brings_69 : decode cX7_brings 69 = .ok (.iconst 0, 1) := by decide +kernel
theorem dX7_brings_70 : decode cX7_brings 70 = .ok (.invokevirtual 64, 3) := by decide +kernel
theorem dX7_brings_73 : decode cX7_brings 73 = .ok (.iinc 5 1, 3) := by decide +kernel
theorem dX7_brings_76 : decode cX7_brings 76 = .ok (.goto (-19), 3) := by decide +kernel
theorem dX7_brings_79 : decode cX7_brings 79 = .ok (.aload_n 0, 1) := by decide +kernel
theorem dX7_brings_80 : decode cX7_brings 80 = .ok (.iload 4, 2) := by decide +kernel
theorem dX7_brings_82 : decode cX7_brings 82 = .ok (.iconst 0, 1) := by decide +kernel
theorem dX7_brings_83 : decode cX7_brings 83 = .ok (.iload_n 1, 1) := by decide +kernel
theorem dX7_brings_84 : decode cX7_brings 84 = .ok (.invokevirtual 64, 3) := by decide +kernel
theorem dX7_brings_87 : decode cX7_brings 87 = .ok (.aload_n 0, 1) := by decide +kernel
theorem dX7_brings_88 : decode cX7_brings 88 = .ok (.iload 4, 2) := by decide +kernel
theorem dX7_brings_90 : decode cX7_brings 90 = .ok (.iconst 1, 1) := by decide +kernel
theorem dX7_brings_91 : decode cX7_brings 91 = .ok (.iload_n 2, 1) := by decide +kernel
theorem dX7_brings_92 : decode cX7_brings 92 = .ok (.invokevirtual 64, 3) := by decide +kernel
theorem dX7_brings_95 : decode cX7_brings 95 = .ok (.aload_n 0, 1) := by decide +kernel
theorem dX7_brings_96 : decode cX7_brings 96 = .ok (.iload 4, 2) := by decide +kernel
theorem dX7_brings_98 : decode cX7_brings 98 = .ok (.iconst 2, 1) := by decide +kernel
theorem dX7_brings_99 : decode cX7_brings 99 = .ok (.iload_n 3, 1) := by decide +kernel
theorem dX7_brings_100 : decode cX7_brings 100 = .ok (.invokevirtual 64, 3) := by decide +kernel
theorem dX7_brings_103 : decode cX7_brings 103 = .ok (.aload_n 0, 1) := by decide +kernel
theorem dX7_brings_104 : decode cX7_brings 104 = .ok (.getfield 7, 3) := by decide +kernel
theorem dX7_brings_107 : decode cX7_brings 107 = .ok (.bipush 29, 2) := by decide +kernel
theorem dX7_brings_109 : decode cX7_brings 109 = .ok (.dup2, 1) := by decide +kernel
theorem dX7_brings_110 : decode cX7_brings 110 = .ok (.iaload, 1) := by decide +kernel
theorem dX7_brings_111 : decode cX7_brings 111 = .ok (.iconst 1, 1) := by decide +kernel
theorem dX7_brings_112 : decode cX7_brings 112 = .ok (.iadd, 1) := by decide +kernel
theorem dX7_brings_113 : decode cX7_brings 113 = .ok (.iastore, 1) := by decide +kernel
theorem dX7_brings_114 : decode cX7_brings 114 = .ok (.iload 4, 2) := by decide +kernel
theorem dX7_brings_116 : decode cX7_brings 116 = .ok (.ireturn, 1) := by decide +kernel
theorem dX7_fetches_0 : decode cX7_fetches 0 = .ok (.aload_n 0, 1) := by decide +kernel
theorem dX7_fetches_1 : decode cX7_fetches 1 = .ok (.iload_n 1, 1) := by decide +kernel
theorem dX7_fetches_2 : decode cX7_fetches 2 = .ok (.invokevirtual 102, 3) := by decide +kernel
theorem dX7_fetches_5 : decode cX7_fetches 5 = .ok (.ifCond .ne 6, 3) := by decide +kernel
theorem dX7_fetches_8 : decode cX7_fetches 8 = .ok (.ldc 33, 2) := by decide +kernel
theorem dX7_fetches_10 : decode cX7_fetches 10 = .ok (.ireturn, 1) := by decide +kernel
theorem dX7_fetches_11 : decode cX7_fetches 11 = .ok (.aload_n 0, 1) := by decide +kernel
theorem dX7_fetches_12 : decode cX7_fetches 12 = .ok (.iload_n 1, 1) := by decide +kernel
theorem dX7_fetches_13 : decode cX7_fetches 13 = .ok (.iconst 3, 1) := by decide +kernel
theorem dX7_fetches_14 : decode cX7_fetches 14 = .ok (.invokevirtual 38, 3) := by decide +kernel
theorem dX7_fetches_17 : decode cX7_fetches 17 = .ok (.iconst 2, 1) := by decide +kernel
theorem dX7_fetches_18 : decode cX7_fetches 18 = .ok (.if_icmp .ne 13, 3) := by decide +kernel
theorem dX7_fetches_21 : decode cX7_fetches 21 = .ok (.aload_n 0, 1) := by decide +kernel
theorem dX7_fetches_22 : decode cX7_fetches 22 = .ok (.iload_n 1, 1) := by decide +kernel
theorem dX7_fetches_23 : decode cX7_fetches 23 = .ok (.bipush 6, 2) := by decide +kernel
theorem dX7_fetches_25 : decode cX7_fetches 25 = .ok (.invokevirtual 38, 3) := by decide +kernel
theorem dX7_fetches_28 : decode cX7_fetches 28 = .ok (.ifCond .le 6, 3) := by decide +kernel
theorem dX7_fetches_31 : decode cX7_fetches 31 = .ok (.ldc 105, 2) := by decide +kernel
theorem dX7_fetches_33 : decode cX7_fetches 33 = .ok (.ireturn, 1) := by decide +kernel
theorem dX7_fetches_34 : decode cX7_fetches 34 = .ok (.aload_n 0, 1) := by decide +kernel
theorem dX7_fetches_35 : decode cX7_fetches 35 = .ok (.iload_n 1, 1) := by decide +kernel
theorem dX7_fetches_36 : decode cX7_fetches 36 = .ok (.invokevirtual 106, 3) := by decide +kernel
theorem dX7_fetches_39 : decode cX7_fetches 39 = .ok (.istore_n 2, 1) := by decide +kernel
theorem dX7_fetches_40 : decode cX7_fetches 40 = .ok (.aload_n 0, 1) := by decide +kernel
theorem dX7_fetches_41 : decode cX7_fetches 41 = .ok (.iload_n 1, 1) := by decide +kernel
theorem dX7_fetches_42 : decode cX7_fetches 42 = .ok (.bipush 11, 2) := by decide +kernel
theorem dX7_fetches_44 : decode cX7_fetches 44 = .ok (.iload_n 2, 1) := by decide +kernel
theorem dX7_fetches_45 : decode cX7_fetches 45 = .ok (.invokevirtual 64, 3) := by decide +kernel
theorem dX7_fetches_48 : decode cX7_fetches 48 = .ok (.aload_n 0, 1) := by decide +kernel
theorem dX7_fetches_49 : decode cX7_fetches 49 = .ok (.iload_n 1, 1) := by decide +kernel
theorem dX7_fetches_50 : decode cX7_fetches 50 = .ok (.iconst 3, 1) := by decide +kernel
theorem dX7_fetches_51 : decode cX7_fetches 51 = .ok (.iconst 3, 1) := by decide +kernel
theorem dX7_fetches_52 : decode cX7_fetches 52 = .ok (.invokevirtual 64, 3) := by decide +kernel
theorem dX7_fetches_55 : decode cX7_fetches 55 = .ok (.iload_n 2, 1) := by decide +kernel
theorem dX7_fetches_56 : decode cX7_fetches 56 = .ok (.ireturn, 1) := by decide +kernel
theorem dX7_product_0 : decode cX7_product 0 = .ok (.iload_n 0, 1) := by decide +kernel
theorem dX7_product_1 : decode cX7_product 1 = .ok (.i2l, 1) := by decide +kernel
theorem dX7_product_2 : decode cX7_product 2 = .ok (.iload_n 1, 1) := by decide +kernel
theorem dX7_product_3 : decode cX7_product 3 = .ok (.i2l, 1) := by decide +kernel
theorem dX7_product_4 : decode cX7_product 4 = .ok (.lmul, 1) := by decide +kernel
theorem dX7_product_5 : decode cX7_product 5 = .ok (.lstore_n 2, 1) := by decide +kernel
theorem dX7_product_6 : decode cX7_product 6 = .ok (.iload_n 0, 1) := by decide +kernel
theorem dX7_product_7 : decode cX7_product 7 = .ok (.ifCond .lt 11, 3) := by decide +kernel
theorem dX7_product_10 : decode cX7_product 10 = .ok (.lload_n 2, 1) := by decide +kernel
theorem dX7_product_11 : decode cX7_product 11 = .ok (.ldc2_w 109, 3) := by decide +kernel
theorem dX7_product_14 : decode cX7_product 14 = .ok (.lcmp, 1) := by decide +kernel
theorem dX7_product_15 : decode cX7_product 15 = .ok (.ifCond .le 7, 3) := by decide +kernel
theorem dX7_product_18 : decode cX7_product 18 = .ok (.iconst (-1), 1) := by decide +kernel
theorem dX7_product_19 : decode cX7_product 19 = .ok (.goto 5, 3) := by decide +kernel
theorem dX7_product_22 : decode cX7_product 22 = .ok (.lload_n 2, 1) := by decide +kernel
theorem dX7_product_23 : decode cX7_product 23 = .ok (.l2i, 1) := by decide +kernel
theorem dX7_product_24 : decode cX7_product 24 = .ok (.ireturn, 1) := by decide +kernel
theorem dX7_pledges_0 : decode cX7_pledges 0 = .ok (.aload_n 0, 1) := by decide +kernel
theorem dX7_pledges_1 : decode cX7_pledges 1 = .ok (.iload_n 1, 1) := by decide +kernel
theorem dX7_pledges_2 : decode cX7_pledges 2 = .ok (.invokevirtual 102, 3) := by decide +kernel
theorem dX7_pledges_5 : decode cX7_pledges 5 = .ok (.ifCond .eq 14, 3) := by decide +kernel
theorem dX7_pledges_8 : decode cX7_pledges 8 = .ok (.iload_n 2, 1) := by decide +kernel
theorem dX7_pledges_9 : decode cX7_pledges 9 = .ok (.iconst 1, 1) := by decide +kernel
theorem dX7_pledges_10 : decode cX7_pledges 10 = .ok (.sipush 200, 3) := by decide +kernel
theorem dX7_pledges_13 : decode cX7_pledges 13 = .ok (.invokestatic 29, 3) := by decide +kernel
theorem dX7_pledges_16 : decode cX7_pledges 16 = .ok (.ifCond .ne 6, 3) := by decide +kernel
theorem dX7_pledges_19 : decode cX7_pledges 19 = .ok (.ldc 33, 2) := by decide +kernel
theorem dX7_pledges_21 : decode cX7_pledges 21 = .ok (.ireturn, 1) := by decide +kernel
theorem dX7_pledges_22 : decode cX7_pledges 22 = .ok (.aload_n 0, 1) := by decide +kernel
theorem dX7_pledges_23 : decode cX7_pledges 23 = .ok (.iload_n 1, 1) := by decide +kernel
theorem dX7_pledges_24 : decode cX7_pledges 24 = .ok (.iconst 3, 1) := by decide +kernel
theorem dX7_pledges_25 : decode cX7_pledges 25 = .ok (.invokevirtual 38, 3) := by decide +kernel
theorem dX7_pledges_28 : decode cX7_pledges 28 = .ok (.iconst 2, 1) := by decide +kernel
theorem dX7_pledges_29 : decode cX7_pledges 29 = .ok (.if_icmp .ne 22, 3) := by decide +kernel
theorem dX7_pledges_32 : decode cX7_pledges 32 = .ok (.aload_n 0, 1) := by decide +kernel
theorem dX7_pledges_33 : decode cX7_pledges 33 = .ok (.iload_n 1, 1) := by decide +kernel
theorem dX7_pledges_34 : decode cX7_pledges 34 = .ok (.bipush 6, 2) := by decide +kernel
theorem dX7_pledges_36 : decode cX7_pledges 36 = .ok (.invokevirtual 38, 3) := by decide +kernel
theorem dX7_pledges_39 : decode cX7_pledges 39 = .ok (.ifCond .gt 12, 3) := by decide +kernel
theorem dX7_pledges_42 : decode cX7_pledges 42 = .ok (.aload_n 0, 1) := by decide +kernel
theorem dX7_pledges_43 : decode cX7_pledges 43 = .ok (.iload_n 1, 1) := by decide +kernel
theorem dX7_pledges_44 : decode cX7_pledges 44 = .ok (.invokevirtual 106, 3) := by decide +kernel
theorem dX7_pledges_47 : decode cX7_pledges 47 = .ok (.iload_n 2, 1) := by decide +kernel
theorem dX7_pledges_48 : decode cX7_pledges 48 = .ok (.if_icmp .ge 6, 3) := by decide +kernel
theorem dX7_pledges_51 : decode cX7_pledges 51 = .ok (.ldc 105, 2) := by decide +kernel
theorem dX7_pledges_53 : decode cX7_pledges 53 = .ok (.ireturn, 1) := by decide +kernel
theorem dX7_pledges_54 : decode cX7_pledges 54 = .ok (.iload_n 2, 1) := by decide +kernel
theorem dX7_pledges_55 : decode cX7_pledges 55 = .ok (.aload_n 0, 1) := by decide +kernel
theorem dX7_pledges_56 : decode cX7_pledges 56 = .ok (.getfield 7, 3) := by decide +kernel
theorem dX7_pledges_59 : decode cX7_pledges 59 = .ok (.bipush 30, 2) := by decide +kernel
theorem dX7_pledges_61 : decode cX7_pledges 61 = .ok (.iconst 3, 1) := by decide +kernel
theorem dX7_pledges_62 : decode cX7_pledges 62 = .ok (.aload_n 0, 1) := by decide +kernel
theorem dX7_pledges_63 : decode cX7_pledges 63 = .ok (.iload_n 1, 1) := by decide +kernel
theorem dX7_pledges_64 : decode cX7_pledges 64 = .ok (.iconst 1, 1) := by decide +kernel
theorem dX7_pledges_65 : decode cX7_pledges 65 = .ok (.invokevirtual 38, 3) := by decide +kernel
theorem dX7_pledges_68 : decode cX7_pledges 68 = .ok (.imul, 1) := by decide +kernel
theorem dX7_pledges_69 : decode cX7_pledges 69 = .ok (.iadd, 1) := by decide +kernel
theorem dX7_pledges_70 : decode cX7_pledges 70 = .ok (.iconst 2, 1) := by decide +kernel
theorem dX7_pledges_71 : decode cX7_pledges 71 = .ok (.iadd, 1) := by decide +kernel
theorem dX7_pledges_72 : decode cX7_pledges 72 = .ok (.iaload, 1) := by decide +kernel
theorem dX7_pledges_73 : decode cX7_pledges 73 = .ok (.invokestatic 111, 3) := by decide +kernel
theorem dX7_pledges_76 : decode cX7_pledges 76 = .ok (.aload_n 0, 1) := by decide +kernel
theorem dX7_pledges_77 : decode cX7_pledges 77 = .ok (.getfield 7, 3) := by decide +kernel
theorem dX7_pledges_80 : decode cX7_pledges 80 = .ok (.bipush 11, 2) := by decide +kernel
theorem dX7_pledges_82 : decode cX7_pledges 82 = .ok (.iaload, 1) := by decide +kernel
theorem dX7_pledges_83 : decode cX7_pledges 83 = .ok (.invokestatic 111, 3) := by decide +kernel
theorem dX7_pledges_86 : decode cX7_pledges 86 = .ok (.istore_n 3, 1) := by decide +kernel
theorem dX7_pledges_87 : decode cX7_pledges 87 = .ok (.aload_n 0, 1) := by decide +kernel
theorem dX7_pledges_88 : decode cX7_pledges 88 = .ok (.getfield 7, 3) := by decide +kernel
theorem dX7_pledges_91 : decode cX7_pledges 91 = .ok (.bipush 48, 2) := by decide +kernel
theorem dX7_pledges_93 : decode cX7_pledges 93 = .ok (.aload_n 0, 1) := by decide +kernel
theorem dX7_pledges_94 : decode cX7_pledges 94 = .ok (.iload_n 1, 1) := by decide +kernel
theorem dX7_pledges_95 : decode cX7_pledges 95 = .ok (.iconst 0, 1) := by decide +kernel
theorem dX7_pledges_96 : decode cX7_pledges 96 = .ok (.invokevirtual 38, 3) := by decide +kernel
theorem dX7_pledges_99 : decode cX7_pledges 99 = .ok (.iadd, 1) := by decide +kernel
theorem dX7_pledges_100 : decode cX7_pledges 100 = .ok (.iaload, 1) := by decide +kernel
theorem dX7_pledges_101 : decode cX7_pledges 101 = .ok (.istore 4, 2) := by decide +kernel
theorem dX7_pledges_103 : decode cX7_pledges 103 = .ok (.iload_n 3, 1) := by decide +kernel
theorem dX7_pledges_104 : decode cX7_pledges 104 = .ok (.ifCond .lt 15, 3) := by decide +kernel
theorem dX7_pledges_107 : decode cX7_pledges 107 = .ok (.iload_n 3, 1) := by decide +kernel
theorem dX7_pledges_108 : decode cX7_pledges 108 = .ok (.bipush 100, 2) := by decide +kernel
theorem dX7_pledges_110 : decode cX7_pledges 110 = .ok (.idiv, 1) := by decide +kernel
theorem dX7_pledges_111 : decode cX7_pledges 111 = .ok (.ldc 114, 2) := by decide +kernel
theorem dX7_pledges_113 : decode cX7_pledges 113 = .ok (.iload 4, 2) := by decide +kernel
theorem dX7_pledges_115 : decode cX7_pledges 115 = .ok (.isub, 1) := by decide +kernel
theorem dX7_pledges_116 : decode cX7_pledges 116 = .ok (.if_icmp .le 6, 3) := by decide +kernel
theorem dX7_pledges_119 : decode cX7_pledges 119 = .ok (.ldc 105, 2) := by decide +kernel
theorem dX7_pledges_121 : decode cX7_pledges 121 = .ok (.ireturn, 1) := by decide +kernel
theorem dX7_pledges_122 : decode cX7_pledges 122 = .ok (.iload_n 3, 1) := by decide +kernel
theorem dX7_pledges_123 : decode cX7_pledges 123 = .ok (.bipush 100, 2) := by decide +kernel
theorem dX7_pledges_125 : decode cX7_pledges 125 = .ok (.idiv, 1) := by decide +kernel
theorem dX7_pledges_126 : decode cX7_pledges 126 = .ok (.istore 5, 2) := by decide +kernel
theorem dX7_pledges_128 : decode cX7_pledges 128 = .ok (.aload_n 0, 1) := by decide +kernel
theorem dX7_pledges_129 : decode cX7_pledges 129 = .ok (.iload_n 1, 1) := by decide +kernel
theorem dX7_pledges_130 : decode cX7_pledges 130 = .ok (.bipush 6, 2) := by decide +kernel
theorem dX7_pledges_132 : decode cX7_pledges 132 = .ok (.iload_n 2, 1) := by decide +kernel
theorem dX7_pledges_133 : decode cX7_pledges 133 = .ok (.invokevirtual 64, 3) := by decide +kernel
theorem dX7_pledges_136 : decode cX7_pledges 136 = .ok (.aload_n 0, 1) := by decide +kernel
theorem dX7_pledges_137 : decode cX7_pledges 137 = .ok (.iload_n 1, 1) := by decide +kernel
theorem dX7_pledges_138 : decode cX7_pledges 138 = .ok (.bipush 7, 2) := by decide +kernel
theorem dX7_pledges_140 : decode cX7_pledges 140 = .ok (.iload 5, 2) := by decide +kernel
theorem dX7_pledges_142 : decode cX7_pledges 142 = .ok (.invokevirtual 64, 3) := by decide +kernel
theorem dX7_pledges_145 : decode cX7_pledges 145 = .ok (.aload_n 0, 1) := by decide +kernel
theorem dX7_pledges_146 : decode cX7_pledges 146 = .ok (.iload_n 1, 1) := by decide +kernel
theorem dX7_pledges_147 : decode cX7_pledges 147 = .ok (.bipush 8, 2) := by decide +kernel
theorem dX7_pledges_149 : decode cX7_pledges 149 = .ok (.aload_n 0, 1) := by decide +kernel
theorem dX7_pledges_150 : decode cX7_pledges 150 = .ok (.getfield 7, 3) := by decide +kernel
theorem dX7_pledges_153 : decode cX7_pledges 153 = .ok (.bipush 26, 2) := by decide +kernel
theorem dX7_pledges_155 : decode cX7_pledges 155 = .ok (.iaload, 1) := by decide +kernel
theorem dX7_pledges_156 : decode cX7_pledges 156 = .ok (.bipush 96, 2) := by decide +kernel
theorem dX7_pledges_158 : decode cX7_pledges 158 = .ok (.idiv, 1) := by decide +kernel
theorem dX7_pledges_159 : decode cX7_pledges 159 = .ok (.invokevirtual 64, 3) := by decide +kernel
theorem dX7_pledges_162 : decode cX7_pledges 162 = .ok (.aload_n 0, 1) := by decide +kernel
theorem dX7_pledges_163 : decode cX7_pledges 163 = .ok (.iload_n 1, 1) := by decide +kernel
theorem dX7_pledges_164 : decode cX7_pledges 164 = .ok (.bipush 9, 2) := by decide +kernel
theorem dX7_pledges_166 : decode cX7_pledges 166 = .ok (.aload_n 0, 1) := by decide +kernel
theorem dX7_pledges_167 : decode cX7_pledges 167 = .ok (.getfield 7, 3) := by decide +kernel
theorem dX7_pledges_170 : decode cX7_pledges 170 = .ok (.bipush 26, 2) := by decide +kernel
theorem dX7_pledges_172 : decode cX7_pledges 172 = .ok (.iaload, 1) := by decide +kernel
theorem dX7_pledges_173 : decode cX7_pledges 173 = .ok (.bipush 96, 2) := by decide +kernel
theorem dX7_pledges_175 : decode cX7_pledges 175 = .ok (.idiv, 1) := by decide +kernel
theorem dX7_pledges_176 : decode cX7_pledges 176 = .ok (.aload_n 0, 1) := by decide +kernel
theorem dX7_pledges_177 : decode cX7_pledges 177 = .ok (.getfield 7, 3) := by decide +kernel
theorem dX7_pledges_180 : decode cX7_pledges 180 = .ok (.bipush 10, 2) := by decide +kernel
theorem dX7_pledges_182 : decode cX7_pledges 182 = .ok (.iaload, 1) := by decide +kernel
theorem dX7_pledges_183 : decode cX7_pledges 183 = .ok (.iadd, 1) := by decide +kernel
theorem dX7_pledges_184 : decode cX7_pledges 184 = .ok (.invokevirtual 64, 3) := by decide +kernel
theorem dX7_pledges_187 : decode cX7_pledges 187 = .ok (.aload_n 0, 1) := by decide +kernel
theorem dX7_pledges_188 : decode cX7_pledges 188 = .ok (.getfield 7, 3) := by decide +kernel
theorem dX7_pledges_191 : decode cX7_pledges 191 = .ok (.bipush 48, 2) := by decide +kernel
theorem dX7_pledges_193 : decode cX7_pledges 193 = .ok (.aload_n 0, 1) := by decide +kernel
theorem dX7_pledges_194 : decode cX7_pledges 194 = .ok (.iload_n 1, 1) := by decide +kernel
theorem dX7_pledges_195 : decode cX7_pledges 195 = .ok (.iconst 0, 1) := by decide +kernel
theorem dX7_pledges_196 : decode cX7_pledges 196 = .ok (.invokevirtual 38, 3) := by decide +kernel
theorem dX7_pledges_199 : decode cX7_pledges 199 = .ok (.iadd, 1) := by decide +kernel
theorem dX7_pledges_200 : decode cX7_pledges 200 = .ok (.dup2, 1) := by decide +kernel
theorem dX7_pledges_201 : decode cX7_pledges 201 = .ok (.iaload, 1) := by decide +kernel
theorem dX7_pledges_202 : decode cX7_pledges 202 = .ok (.iload 5, 2) := by decide +kernel
theorem dX7_pledges_204 : decode cX7_pledges 204 = .ok (.iadd, 1) := by decide +kernel
theorem dX7_pledges_205 : decode cX7_pledges 205 = .ok (.iastore, 1) := by decide +kernel
theorem dX7_pledges_206 : decode cX7_pledges 206 = .ok (.iload 5, 2) := by decide +kernel
theorem dX7_pledges_208 : decode cX7_pledges 208 = .ok (.ireturn, 1) := by decide +kernel
theorem dX7_owes_0 : decode cX7_owes 0 = .ok (.aload_n 0, 1) := by decide +kernel
theorem dX7_owes_1 : decode cX7_owes 1 = .ok (.iload_n 1, 1) := by decide +kernel
theorem dX7_owes_2 : decode cX7_owes 2 = .ok (.bipush 7, 2) := by decide +kernel
theorem dX7_owes_4 : decode cX7_owes 4 = .ok (.invokevirtual 38, 3) := by decide +kernel
theorem dX7_owes_7 : decode cX7_owes 7 = .ok (.aload_n 0, 1) := by decide +kernel
theorem dX7_owes_8 : decode cX7_owes 8 = .ok (.getfield 7, 3) := by decide +kernel
theorem dX7_owes_11 : decode cX7_owes 11 = .ok (.bipush 9, 2) := by decide +kernel
theorem dX7_owes_13 : decode cX7_owes 13 = .ok (.iaload, 1) := by decide +kernel
theorem dX7_owes_14 : decode cX7_owes 14 = .ok (.invokestatic 111, 3) := by decide +kernel
theorem dX7_owes_17 : decode cX7_owes 17 = .ok (.aload_n 0, 1) := by decide +kernel
theorem dX7_owes_18 : decode cX7_owes 18 = .ok (.getfield 7, 3) := by decide +kernel
theorem dX7_owes_21 : decode cX7_owes 21 = .ok (.bipush 26, 2) := by decide +kernel
theorem dX7_owes_23 : decode cX7_owes 23 = .ok (.iaload, 1) := by decide +kernel
theorem dX7_owes_24 : decode cX7_owes 24 = .ok (.bipush 96, 2) := by decide +kernel
theorem dX7_owes_26 : decode cX7_owes 26 = .ok (.idiv, 1) := by decide +kernel
theorem dX7_owes_27 : decode cX7_owes 27 = .ok (.aload_n 0, 1) := by decide +kernel
theorem dX7_owes_28 : decode cX7_owes 28 = .ok (.iload_n 1, 1) := by decide +kernel
theorem dX7_owes_29 : decode cX7_owes 29 = .ok (.bipush 8, 2) := by decide +kernel
theorem dX7_owes_31 : decode cX7_owes 31 = .ok (.invokevirtual 38, 3) := by decide +kernel
theorem dX7_owes_34 : decode cX7_owes 34 = .ok (.isub, 1) := by decide +kernel
theorem dX7_owes_35 : decode cX7_owes 35 = .ok (.invokestatic 111, 3) := by decide +kernel
theorem dX7_owes_38 : decode cX7_owes 38 = .ok (.istore_n 2, 1) := by decide +kernel
theorem dX7_owes_39 : decode cX7_owes 39 = .ok (.iload_n 2, 1) := by decide +kernel
theorem dX7_owes_40 : decode cX7_owes 40 = .ok (.ifCond .lt 21, 3) := by decide +kernel
theorem dX7_owes_43 : decode cX7_owes 43 = .ok (.iload_n 2, 1) := by decide +kernel
theorem dX7_owes_44 : decode cX7_owes 44 = .ok (.sipush 1000, 3) := by decide +kernel
theorem dX7_owes_47 : decode cX7_owes 47 = .ok (.idiv, 1) := by decide +kernel
theorem dX7_owes_48 : decode cX7_owes 48 = .ok (.ldc 114, 2) := by decide +kernel
theorem dX7_owes_50 : decode cX7_owes 50 = .ok (.aload_n 0, 1) := by decide +kernel
theorem dX7_owes_51 : decode cX7_owes 51 = .ok (.iload_n 1, 1) := by decide +kernel
theorem dX7_owes_52 : decode cX7_owes 52 = .ok (.bipush 7, 2) := by decide +kernel
theorem dX7_owes_54 : decode cX7_owes 54 = .ok (.invokevirtual 38, 3) := by decide +kernel
theorem dX7_owes_57 : decode cX7_owes 57 = .ok (.isub, 1) := by decide +kernel
theorem dX7_owes_58 : decode cX7_owes 58 = .ok (.if_icmp .le 8, 3) := by decide +kernel
theorem dX7_owes_61 : decode cX7_owes 61 = .ok (.ldc 114, 2) := by decide +kernel
theorem dX7_owes_63 : decode cX7_owes 63 = .ok (.goto 16, 3) := by decide +kernel
theorem dX7_owes_66 : decode cX7_owes 66 = .ok (.aload_n 0, 1) := by decide +kernel
theorem dX7_owes_67 : decode cX7_owes 67 = .ok (.iload_n 1, 1) := by decide +kernel
theorem dX7_owes_68 : decode cX7_owes 68 = .ok (.bipush 7, 2) := by decide +kernel
theorem dX7_owes_70 : decode cX7_owes 70 = .ok (.invokevirtual 38, 3) := by decide +kernel
theorem dX7_owes_73 : decode cX7_owes 73 = .ok (.iload_n 2, 1) := by decide +kernel
theorem dX7_owes_74 : decode cX7_owes 74 = .ok (.sipush 1000, 3) := by decide +kernel
theorem dX7_owes_77 : decode cX7_owes 77 = .ok (.idiv, 1) := by decide +kernel
theorem dX7_owes_78 : decode cX7_owes 78 = .ok (.iadd, 1) := by decide +kernel
theorem dX7_owes_79 : decode cX7_owes 79 = .ok (.ireturn, 1) := by decide +kernel
theorem dX7_redeems_0 : decode cX7_redeems 0 = .ok (.aload_n 0, 1) := by decide +kernel
theorem dX7_redeems_1 : decode cX7_redeems 1 = .ok (.iload_n 1, 1) := by decide +kernel
theorem dX7_redeems_2 : decode cX7_redeems 2 = .ok (.invokevirtual 102, 3) := by decide +kernel
theorem dX7_redeems_5 : decode cX7_redeems 5 = .ok (.ifCond .ne 6, 3) := by decide +kernel
theorem dX7_redeems_8 : decode cX7_redeems 8 = .ok (.ldc 33, 2) := by decide +kernel
theorem dX7_redeems_10 : decode cX7_redeems 10 = .ok (.ireturn, 1) := by decide +kernel
theorem dX7_redeems_11 : decode cX7_redeems 11 = .ok (.bipush 48, 2) := by decide +kernel
theorem dX7_redeems_13 : decode cX7_redeems 13 = .ok (.aload_n 0, 1) := by decide +kernel
theorem dX7_redeems_14 : decode cX7_redeems 14 = .ok (.iload_n 1, 1) := by decide +kernel
theorem dX7_redeems_15 : decode cX7_redeems 15 = .ok (.iconst 0, 1) := by decide +kernel
theorem dX7_redeems_16 : decode cX7_redeems 16 = .ok (.invokevirtual 38, 3) := by decide +kernel
theorem dX7_redeems_19 : decode cX7_redeems 19 = .ok (.iadd, 1) := by decide +kernel
theorem dX7_redeems_20 : decode cX7_redeems 20 = .ok (.istore_n 2, 1) := by decide +kernel
theorem dX7_redeems_21 : decode cX7_redeems 21 = .ok (.aload_n 0, 1) := by decide +kernel
theorem dX7_redeems_22 : decode cX7_redeems 22 = .ok (.iload_n 1, 1) := by decide +kernel
theorem dX7_redeems_23 : decode cX7_redeems 23 = .ok (.bipush 6, 2) := by decide +kernel
theorem dX7_redeems_25 : decode cX7_redeems 25 = .ok (.invokevirtual 38, 3) := by decide +kernel
theorem dX7_redeems_28 : decode cX7_redeems 28 = .ok (.ifCond .eq 27, 3) := by decide +kernel
theorem dX7_redeems_31 : decode cX7_redeems 31 = .ok (.aload_n 0, 1) := by decide +kernel
theorem dX7_redeems_32 : decode cX7_redeems 32 = .ok (.iload_n 1, 1) := by decide +kernel
theorem dX7_redeems_33 : decode cX7_redeems 33 = .ok (.invokevirtual 115, 3) := by decide +kernel
theorem dX7_redeems_36 : decode cX7_redeems 36 = .ok (.ldc 114, 2) := by decide +kernel
theorem dX7_redeems_38 : decode cX7_redeems 38 = .ok (.if_icmp .eq 17, 3) := by decide +kernel
theorem dX7_redeems_41 : decode cX7_redeems 41 = .ok (.aload_n 0, 1) := by decide +kernel
theorem dX7_redeems_42 : decode cX7_redeems 42 = .ok (.getfield 7, 3) := by decide +kernel
theorem dX7_redeems_45 : decode cX7_redeems 45 = .ok (.iload_n 2, 1) := by decide +kernel
theorem dX7_redeems_46 : decode cX7_redeems 46 = .ok (.iaload, 1) := by decide +kernel
theorem dX7_redeems_47 : decode cX7_redeems 47 = .ok (.aload_n 0, 1) := by decide +kernel
theorem dX7_redeems_48 : decode cX7_redeems 48 = .ok (.iload_n 1, 1) := by decide +kernel
theorem dX7_redeems_49 : decode cX7_redeems 49 = .ok (.invokevirtual 115, 3) := by decide +kernel
theorem dX7_redeems_52 : decode cX7_redeems 52 = .ok (.if_icmp .ge 6, 3) := by decide +kernel
theorem dX7_redeems_55 : decode cX7_redeems 55 = .ok (.ldc 105, 2) := by decide +kernel
theorem dX7_redeems_57 : decode cX7_redeems 57 = .ok (.ireturn, 1) := by decide +kernel
theorem dX7_redeems_58 : decode cX7_redeems 58 = .ok (.aload_n 0, 1) := by decide +kernel
theorem dX7_redeems_59 : decode cX7_redeems 59 = .ok (.getfield 7, 3) := by decide +kernel
theorem dX7_redeems_62 : decode cX7_redeems 62 = .ok (.iload_n 2, 1) := by decide +kernel
theorem dX7_redeems_63 : decode cX7_redeems 63 = .ok (.dup2, 1) := by decide +kernel
theorem dX7_redeems_64 : decode cX7_redeems 64 = .ok (.iaload, 1) := by decide +kernel
theorem dX7_redeems_65 : decode cX7_redeems 65 = .ok (.aload_n 0, 1) := by decide +kernel
theorem dX7_redeems_66 : decode cX7_redeems 66 = .ok (.iload_n 1, 1) := by decide +kernel
theorem dX7_redeems_67 : decode cX7_redeems 67 = .ok (.invokevirtual 115, 3) := by decide +kernel
theorem dX7_redeems_70 : decode cX7_redeems 70 = .ok (.isub, 1) := by decide +kernel
theorem dX7_redeems_71 : decode cX7_redeems 71 = .ok (.iastore, 1) := by decide +kernel
theorem dX7_redeems_72 : decode cX7_redeems 72 = .ok (.aload_n 0, 1) := by decide +kernel
theorem dX7_redeems_73 : decode cX7_redeems 73 = .ok (.iload_n 1, 1) := by decide +kernel
theorem dX7_redeems_74 : decode cX7_redeems 74 = .ok (.bipush 6, 2) := by decide +kernel
theorem dX7_redeems_76 : decode cX7_redeems 76 = .ok (.iconst 0, 1) := by decide +kernel
theorem dX7_redeems_77 : decode cX7_redeems 77 = .ok (.invokevirtual 64, 3) := by decide +kernel
theorem dX7_redeems_80 : decode cX7_redeems 80 = .ok (.aload_n 0, 1) := by decide +kernel
theorem dX7_redeems_81 : decode cX7_redeems 81 = .ok (.getfield 7, 3) := by decide +kernel
theorem dX7_redeems_84 : decode cX7_redeems 84 = .ok (.iload_n 2, 1) := by decide +kernel
theorem dX7_redeems_85 : decode cX7_redeems 85 = .ok (.iaload, 1) := by decide +kernel
theorem dX7_redeems_86 : decode cX7_redeems 86 = .ok (.ireturn, 1) := by decide +kernel
theorem dX7_low_0 : decode cX7_low 0 = .ok (.iload_n 0, 1) := by decide +kernel
theorem dX7_low_1 : decode cX7_low 1 = .ok (.ifCond .ne 8, 3) := by decide +kernel
theorem dX7_low_4 : decode cX7_low 4 = .ok (.bipush 10, 2) := by decide +kernel
theorem dX7_low_6 : decode cX7_low 6 = .ok (.goto 29, 3) := by decide +kernel
theorem dX7_low_9 : decode cX7_low 9 = .ok (.iload_n 0, 1) := by decide +kernel
theorem dX7_low_10 : decode cX7_low 10 = .ok (.iconst 4, 1) := by decide +kernel
theorem dX7_low_11 : decode cX7_low 11 = .ok (.if_icmp .ne 7, 3) := by decide +kernel
theorem dX7_low_14 : decode cX7_low 14 = .ok (.iconst 4, 1) := by decide +kernel
theorem dX7_low_15 : decode cX7_low 15 = .ok (.goto 20, 3) := by decide +kernel
theorem dX7_low_18 : decode cX7_low 18 = .ok (.iload_n 0, 1) := by decide +kernel
theorem dX7_low_19 : decode cX7_low 19 = .ok (.bipush 10, 2) := by decide +kernel
theorem dX7_low_21 : decode cX7_low 21 = .ok (.if_icmp .eq 9, 3) := by decide +kernel
theorem dX7_low_24 : decode cX7_low 24 = .ok (.iload_n 0, 1) := by decide +kernel
theorem dX7_low_25 : decode cX7_low 25 = .ok (.bipush 11, 2) := by decide +kernel
theorem dX7_low_27 : decode cX7_low 27 = .ok (.if_icmp .ne 7, 3) := by decide +kernel
theorem dX7_low_30 : decode cX7_low 30 = .ok (.iconst 1, 1) := by decide +kernel
theorem dX7_low_31 : decode cX7_low 31 = .ok (.goto 4, 3) := by decide +kernel
theorem dX7_low_34 : decode cX7_low 34 = .ok (.iconst 0, 1) := by decide +kernel
theorem dX7_low_35 : decode cX7_low 35 = .ok (.ireturn, 1) := by decide +kernel
theorem dX7_high_0 : decode cX7_high 0 = .ok (.iload_n 0, 1) := by decide +kernel
theorem dX7_high_1 : decode cX7_high 1 = .ok (.tableswitch 91 0 12 #[67, 91, 71, 91, 91, 75, 91, 79, 83, 91, 86, 91, 89], 67) := by decide +kernel
theorem dX7_high_68 : decode cX7_high 68 = .ok (.sipush 1000, 3) := by decide +kernel
theorem dX7_high_71 : decode cX7_high 71 = .ok (.ireturn, 1) := by decide +kernel
theorem dX7_high_72 : decode cX7_high 72 = .ok (.sipush 300, 3) := by decide +kernel
theorem dX7_high_75 : decode cX7_high 75 = .ok (.ireturn, 1) := by decide +kernel
theorem dX7_high_76 : decode cX7_high 76 = .ok (.sipush 200, 3) := by decide +kernel
theorem dX7_high_79 : decode cX7_high 79 = .ok (.ireturn, 1) := by decide +kernel
theorem dX7_high_80 : decode cX7_high 80 = .ok (.sipush 2000, 3) := by decide +kernel
theorem dX7_high_83 : decode cX7_high 83 = .ok (.ireturn, 1) := by decide +kernel
theorem dX7_high_84 : decode cX7_high 84 = .ok (.bipush 50, 2) := by decide +kernel
theorem dX7_high_86 : decode cX7_high 86 = .ok (.ireturn, 1) := by decide +kernel
theorem dX7_high_87 : decode cX7_high 87 = .ok (.bipush 60, 2) := by decide +kernel
theorem dX7_high_89 : decode cX7_high 89 = .ok (.ireturn, 1) := by decide +kernel
theorem dX7_high_90 : decode cX7_high 90 = .ok (.iconst 3, 1) := by decide +kernel
theorem dX7_high_91 : decode cX7_high 91 = .ok (.ireturn, 1) := by decide +kernel
theorem dX7_high_92 : decode cX7_high 92 = .ok (.bipush 100, 2) := by decide +kernel
theorem dX7_high_94 : decode cX7_high 94 = .ok (.ireturn, 1) := by decide +kernel
theorem dX7_set_0 : decode cX7_set 0 = .ok (.iload_n 1, 1) := by decide +kernel
theorem dX7_set_1 : decode cX7_set 1 = .ok (.iconst 0, 1) := by decide +kernel
theorem dX7_set_2 : decode cX7_set 2 = .ok (.bipush 12, 2) := by decide +kernel
theorem dX7_set_4 : decode cX7_set 4 = .ok (.invokestatic 29, 3) := by decide +kernel
theorem dX7_set_7 : decode cX7_set 7 = .ok (.ifCond .eq 18, 3) := by decide +kernel
theorem dX7_set_10 : decode cX7_set 10 = .ok (.iload_n 2, 1) := by decide +kernel
theorem dX7_set_11 : decode cX7_set 11 = .ok (.iload_n 1, 1) := by decide +kernel
theorem dX7_set_12 : decode cX7_set 12 = .ok (.invokestatic 118, 3) := by decide +kernel
theorem dX7_set_15 : decode cX7_set 15 = .ok (.iload_n 1, 1) := by decide +kernel
theorem dX7_set_16 : decode cX7_set 16 = .ok (.invokestatic 121, 3) := by decide +kernel
theorem dX7_set_19 : decode cX7_set 19 = .ok (.invokestatic 29, 3) := by decide +kernel
theorem dX7_set_22 : decode cX7_set 22 = .ok (.ifCond .ne 6, 3) := by decide +kernel
theorem dX7_set_25 : decode cX7_set 25 = .ok (.ldc 33, 2) := by decide +kernel
theorem dX7_set_27 : decode cX7_set 27 = .ok (.ireturn, 1) := by decide +kernel
theorem dX7_set_28 : decode cX7_set 28 = .ok (.aload_n 0, 1) := by decide +kernel
theorem dX7_set_29 : decode cX7_set 29 = .ok (.invokevirtual 124, 3) := by decide +kernel
theorem dX7_set_32 : decode cX7_set 32 = .ok (.aload_n 0, 1) := by decide +kernel
theorem dX7_set_33 : decode cX7_set 33 = .ok (.getfield 7, 3) := by decide +kernel
theorem dX7_set_36 : decode cX7_set 36 = .ok (.iload_n 1, 1) := by decide +kernel
theorem dX7_set_37 : decode cX7_set 37 = .ok (.iaload, 1) := by decide +kernel
theorem dX7_set_38 : decode cX7_set 38 = .ok (.istore_n 3, 1) := by decide +kernel
theorem dX7_set_39 : decode cX7_set 39 = .ok (.aload_n 0, 1) := by decide +kernel
theorem dX7_set_40 : decode cX7_set 40 = .ok (.getfield 7, 3) := by decide +kernel
theorem dX7_set_43 : decode cX7_set 43 = .ok (.iload_n 1, 1) := by decide +kernel
theorem dX7_set_44 : decode cX7_set 44 = .ok (.iload_n 2, 1) := by decide +kernel
theorem dX7_set_45 : decode cX7_set 45 = .ok (.iastore, 1) := by decide +kernel
theorem dX7_set_46 : decode cX7_set 46 = .ok (.aload_n 0, 1) := by decide +kernel
theorem dX7_set_47 : decode cX7_set 47 = .ok (.iload_n 3, 1) := by decide +kernel
theorem dX7_set_48 : decode cX7_set 48 = .ok (.invokevirtual 127, 3) := by decide +kernel
theorem dX7_set_51 : decode cX7_set 51 = .ok (.ireturn, 1) := by decide +kernel
theorem dX7_leak_0 : decode cX7_leak 0 = .ok (.iload_n 1, 1) := by decide +kernel
theorem dX7_leak_1 : decode cX7_leak 1 = .ok (.iconst 0, 1) := by decide +kernel
theorem dX7_leak_2 : decode cX7_leak 2 = .ok (.iconst 3, 1) := by decide +kernel
theorem dX7_leak_3 : decode cX7_leak 3 = .ok (.invokestatic 29, 3) := by decide +kernel
theorem dX7_leak_6 : decode cX7_leak 6 = .ok (.ifCond .eq 13, 3) := by decide +kernel
theorem dX7_leak_9 : decode cX7_leak 9 = .ok (.iload_n 2, 1) := by decide +kernel
theorem dX7_leak_10 : decode cX7_leak 10 = .ok (.iconst 0, 1) := by decide +kernel
theorem dX7_leak_11 : decode cX7_leak 11 = .ok (.bipush 20, 2) := by decide +kernel
theorem dX7_leak_13 : decode cX7_leak 13 = .ok (.invokestatic 29, 3) := by decide +kernel
theorem dX7_leak_16 : decode cX7_leak 16 = .ok (.ifCond .ne 6, 3) := by decide +kernel
theorem dX7_leak_19 : decode cX7_leak 19 = .ok (.ldc 33, 2) := by decide +kernel
theorem dX7_leak_21 : decode cX7_leak 21 = .ok (.ireturn, 1) := by decide +kernel
theorem dX7_leak_22 : decode cX7_leak 22 = .ok (.aload_n 0, 1) := by decide +kernel
theorem dX7_leak_23 : decode cX7_leak 23 = .ok (.invokevirtual 124, 3) := by decide +kernel
theorem dX7_leak_26 : decode cX7_leak 26 = .ok (.aload_n 0, 1) := by decide +kernel
theorem dX7_leak_27 : decode cX7_leak 27 = .ok (.getfield 7, 3) := by decide +kernel
theorem dX7_leak_30 : decode cX7_leak 30 = .ok (.bipush 13, 2) := by decide +kernel
theorem dX7_leak_32 : decode cX7_leak 32 = .ok (.iload_n 1, 1) := by decide +kernel
theorem dX7_leak_33 : decode cX7_leak 33 = .ok (.iadd, 1) := by decide +kernel
theorem dX7_leak_34 : decode cX7_leak 34 = .ok (.iaload, 1) := by decide +kernel
theorem dX7_leak_35 : decode cX7_leak 35 = .ok (.istore_n 3, 1) := by decide +kernel
theorem dX7_leak_36 : decode cX7_leak 36 = .ok (.aload_n 0, 1) := by decide +kernel
theorem dX7_leak_37 : decode cX7_leak 37 = .ok (.getfield 7, 3) := by decide +kernel
theorem dX7_leak_40 : decode cX7_leak 40 = .ok (.bipush 13, 2) := by decide +kernel
theorem dX7_leak_42 : decode cX7_leak 42 = .ok (.iload_n 1, 1) := by decide +kernel
theorem dX7_leak_43 : decode cX7_leak 43 = .ok (.iadd, 1) := by decide +kernel
theorem dX7_leak_44 : decode cX7_leak 44 = .ok (.iload_n 2, 1) := by decide +kernel
theorem dX7_leak_45 : decode cX7_leak 45 = .ok (.iastore, 1) := by decide +kernel
theorem dX7_leak_46 : decode cX7_leak 46 = .ok (.aload_n 0, 1) := by decide +kernel
theorem dX7_leak_47 : decode cX7_leak 47 = .ok (.iload_n 3, 1) := by decide +kernel
theorem dX7_leak_48 : decode cX7_leak 48 = .ok (.invokevirtual 127, 3) := by decide +kernel
theorem dX7_leak_51 : decode cX7_leak 51 = .ok (.ireturn, 1) := by decide +kernel
theorem dX7_lock_0 : decode cX7_lock 0 = .ok (.iload_n 1, 1) := by decide +kernel
theorem dX7_lock_1 : decode cX7_lock 1 = .ok (.iconst 0, 1) := by decide +kernel
theorem dX7_lock_2 : decode cX7_lock 2 = .ok (.iconst 1, 1) := by decide +kernel
theorem dX7_lock_3 : decode cX7_lock 3 = .ok (.invokestatic 29, 3) := by decide +kernel
theorem dX7_lock_6 : decode cX7_lock 6 = .ok (.ifCond .ne 6, 3) := by decide +kernel
theorem dX7_lock_9 : decode cX7_lock 9 = .ok (.ldc 33, 2) := by decide +kernel
theorem dX7_lock_11 : decode cX7_lock 11 = .ok (.ireturn, 1) := by decide +kernel
theorem dX7_lock_12 : decode cX7_lock 12 = .ok (.aload_n 0, 1) := by decide +kernel
theorem dX7_lock_13 : decode cX7_lock 13 = .ok (.invokevirtual 124, 3) := by decide +kernel
theorem dX7_lock_16 : decode cX7_lock 16 = .ok (.aload_n 0, 1) := by decide +kernel
theorem dX7_lock_17 : decode cX7_lock 17 = .ok (.getfield 7, 3) := by decide +kernel
theorem dX7_lock_20 : decode cX7_lock 20 = .ok (.bipush 17, 2) := by decide +kernel
theorem dX7_lock_22 : decode cX7_lock 22 = .ok (.iaload, 1) := by decide +kernel
theorem dX7_lock_23 : decode cX7_lock 23 = .ok (.istore_n 2, 1) := by decide +kernel
theorem dX7_lock_24 : decode cX7_lock 24 = .ok (.aload_n 0, 1) := by decide +kernel
theorem dX7_lock_25 : decode cX7_lock 25 = .ok (.getfield 7, 3) := by decide +kernel
theorem dX7_lock_28 : decode cX7_lock 28 = .ok (.bipush 17, 2) := by decide +kernel
theorem dX7_lock_30 : decode cX7_lock 30 = .ok (.iload_n 1, 1) := by decide +kernel
theorem dX7_lock_31 : decode cX7_lock 31 = .ok (.iastore, 1) := by decide +kernel
theorem dX7_lock_32 : decode cX7_lock 32 = .ok (.aload_n 0, 1) := by decide +kernel
theorem dX7_lock_33 : decode cX7_lock 33 = .ok (.iload_n 2, 1) := by decide +kernel
theorem dX7_lock_34 : decode cX7_lock 34 = .ok (.invokevirtual 127, 3) := by decide +kernel
theorem dX7_lock_37 : decode cX7_lock 37 = .ok (.ireturn, 1) := by decide +kernel
theorem dX7_gate_0 : decode cX7_gate 0 = .ok (.aload_n 0, 1) := by decide +kernel
theorem dX7_gate_1 : decode cX7_gate 1 = .ok (.invokevirtual 124, 3) := by decide +kernel
theorem dX7_gate_4 : decode cX7_gate 4 = .ok (.aload_n 0, 1) := by decide +kernel
theorem dX7_gate_5 : decode cX7_gate 5 = .ok (.aload_n 0, 1) := by decide +kernel
theorem dX7_gate_6 : decode cX7_gate 6 = .ok (.iload_n 1, 1) := by decide +kernel
theorem dX7_gate_7 : decode cX7_gate 7 = .ok (.invokevirtual 130, 3) := by decide +kernel
theorem dX7_gate_10 : decode cX7_gate 10 = .ok (.invokevirtual 127, 3) := by decide +kernel
theorem dX7_gate_13 : decode cX7_gate 13 = .ok (.ireturn, 1) := by decide +kernel
theorem dX7_kind_0 : decode cX7_kind 0 = .ok (.iload_n 1, 1) := by decide +kernel
theorem dX7_kind_1 : decode cX7_kind 1 = .ok (.iconst 1, 1) := by decide +kernel
theorem dX7_kind_2 : decode cX7_kind 2 = .ok (.bipush 9, 2) := by decide +kernel
theorem dX7_kind_4 : decode cX7_kind 4 = .ok (.invokestatic 29, 3) := by decide +kernel
theorem dX7_kind_7 : decode cX7_kind 7 = .ok (.ifCond .eq 23, 3) := by decide +kernel
theorem dX7_kind_10 : decode cX7_kind 10 = .ok (.iload_n 2, 1) := by decide +kernel
theorem dX7_kind_11 : decode cX7_kind 11 = .ok (.iconst 0, 1) := by decide +kernel
theorem dX7_kind_12 : decode cX7_kind 12 = .ok (.bipush 20, 2) := by decide +kernel
theorem dX7_kind_14 : decode cX7_kind 14 = .ok (.invokestatic 29, 3) := by decide +kernel
theorem dX7_kind_17 : decode cX7_kind 17 = .ok (.ifCond .eq 13, 3) := by decide +kernel
theorem dX7_kind_20 : decode cX7_kind 20 = .ok (.iload_n 3, 1) := by decide +kernel
theorem dX7_kind_21 : decode cX7_kind 21 = .ok (.iconst 1, 1) := by decide +kernel
theorem dX7_kind_22 : decode cX7_kind 22 = .ok (.ldc 133, 2) := by decide +kernel
theorem dX7_kind_24 : decode cX7_kind 24 = .ok (.invokestatic 29, 3) := by decide +kernel
theorem dX7_kind_27 : decode cX7_kind 27 = .ok (.ifCond .ne 6, 3) := by decide +kernel
theorem dX7_kind_30 : decode cX7_kind 30 = .ok (.ldc 33, 2) := by decide +kernel
theorem dX7_kind_32 : decode cX7_kind 32 = .ok (.ireturn, 1) := by decide +kernel
theorem dX7_kind_33 : decode cX7_kind 33 = .ok (.aload_n 0, 1) := by decide +kernel
theorem dX7_kind_34 : decode cX7_kind 34 = .ok (.getfield 7, 3) := by decide +kernel
theorem dX7_kind_37 : decode cX7_kind 37 = .ok (.bipush 27, 2) := by decide +kernel
theorem dX7_kind_39 : decode cX7_kind 39 = .ok (.iaload, 1) := by decide +kernel
theorem dX7_kind_40 : decode cX7_kind 40 = .ok (.bipush 6, 2) := by decide +kernel
theorem dX7_kind_42 : decode cX7_kind 42 = .ok (.if_icmp .ne 6, 3) := by decide +kernel
theorem dX7_kind_45 : decode cX7_kind 45 = .ok (.ldc 101, 2) := by decide +kernel
theorem dX7_kind_47 : decode cX7_kind 47 = .ok (.ireturn, 1) := by decide +kernel
theorem dX7_kind_48 : decode cX7_kind 48 = .ok (.aload_n 0, 1) := by decide +kernel
theorem dX7_kind_49 : decode cX7_kind 49 = .ok (.invokevirtual 124, 3) := by decide +kernel
theorem dX7_kind_52 : decode cX7_kind 52 = .ok (.bipush 30, 2) := by decide +kernel
theorem dX7_kind_54 : decode cX7_kind 54 = .ok (.iconst 3, 1) := by decide +kernel
theorem dX7_kind_55 : decode cX7_kind 55 = .ok (.aload_n 0, 1) := by decide +kernel
theorem dX7_kind_56 : decode cX7_kind 56 = .ok (.getfield 7, 3) := by decide +kernel
theorem dX7_kind_59 : decode cX7_kind 59 = .ok (.bipush 27, 2) := by decide +kernel
theorem dX7_kind_61 : decode cX7_kind 61 = .ok (.iaload, 1) := by decide +kernel
theorem dX7_kind_62 : decode cX7_kind 62 = .ok (.imul, 1) := by decide +kernel
theorem dX7_kind_63 : decode cX7_kind 63 = .ok (.iadd, 1) := by decide +kernel
theorem dX7_kind_64 : decode cX7_kind 64 = .ok (.istore 4, 2) := by decide +kernel
theorem dX7_kind_66 : decode cX7_kind 66 = .ok (.aload_n 0, 1) := by decide +kernel
theorem dX7_kind_67 : decode cX7_kind 67 = .ok (.getfield 7, 3) := by decide +kernel
theorem dX7_kind_70 : decode cX7_kind 70 = .ok (.iload 4, 2) := by decide +kernel
theorem dX7_kind_72 : decode cX7_kind 72 = .ok (.iload_n 1, 1) := by decide +kernel
theorem dX7_kind_73 : decode cX7_kind 73 = .ok (.iastore, 1) := by decide +kernel
theorem dX7_kind_74 : decode cX7_kind 74 = .ok (.aload_n 0, 1) := by decide +kernel
theorem dX7_kind_75 : decode cX7_kind 75 = .ok (.getfield 7, 3) := by decide +kernel
theorem dX7_kind_78 : decode cX7_kind 78 = .ok (.iload 4, 2) := by decide +kernel
theorem dX7_kind_80 : decode cX7_kind 80 = .ok (.iconst 1, 1) := by decide +kernel
theorem dX7_kind_81 : decode cX7_kind 81 = .ok (.iadd, 1) := by decide +kernel
theorem dX7_kind_82 : decode cX7_kind 82 = .ok (.iload_n 2, 1) := by decide +kernel
theorem dX7_kind_83 : decode cX7_kind 83 = .ok (.iastore, 1) := by decide +kernel
theorem dX7_kind_84 : decode cX7_kind 84 = .ok (.aload_n 0, 1) := by decide +kernel
theorem dX7_kind_85 : decode cX7_kind 85 = .ok (.getfield 7, 3) := by decide +kernel
theorem dX7_kind_88 : decode cX7_kind 88 = .ok (.iload 4, 2) := by decide +kernel
theorem dX7_kind_90 : decode cX7_kind 90 = .ok (.iconst 2, 1) := by decide +kernel
theorem dX7_kind_91 : decode cX7_kind 91 = .ok (.iadd, 1) := by decide +kernel
theorem dX7_kind_92 : decode cX7_kind 92 = .ok (.iload_n 3, 1) := by decide +kernel
theorem dX7_kind_93 : decode cX7_kind 93 = .ok (.iastore, 1) := by decide +kernel
theorem dX7_kind_94 : decode cX7_kind 94 = .ok (.aload_n 0, 1) := by decide +kernel
theorem dX7_kind_95 : decode cX7_kind 95 = .ok (.getfield 7, 3) := by decide +kernel
theorem dX7_kind_98 : decode cX7_kind 98 = .ok (.bipush 27, 2) := by decide +kernel
theorem dX7_kind_100 : decode cX7_kind 100 = .ok (.dup2, 1) := by decide +kernel
theorem dX7_kind_101 : decode cX7_kind 101 = .ok (.iaload, 1) := by decide +kernel
theorem dX7_kind_102 : decode cX7_kind 102 = .ok (.iconst 1, 1) := by decide +kernel
theorem dX7_kind_103 : decode cX7_kind 103 = .ok (.iadd, 1) := by decide +kernel
theorem dX7_kind_104 : decode cX7_kind 104 = .ok (.iastore, 1) := by decide +kernel
theorem dX7_kind_105 : decode cX7_kind 105 = .ok (.aload_n 0, 1) := by decide +kernel
theorem dX7_kind_106 : decode cX7_kind 106 = .ok (.aload_n 0, 1) := by decide +kernel
theorem dX7_kind_107 : decode cX7_kind 107 = .ok (.getfield 7, 3) := by decide +kernel
theorem dX7_kind_110 : decode cX7_kind 110 = .ok (.bipush 27, 2) := by decide +kernel
theorem dX7_kind_112 : decode cX7_kind 112 = .ok (.iaload, 1) := by decide +kernel
theorem dX7_kind_113 : decode cX7_kind 113 = .ok (.iconst 1, 1) := by decide +kernel
theorem dX7_kind_114 : decode cX7_kind 114 = .ok (.isub, 1) := by decide +kernel
theorem dX7_kind_115 : decode cX7_kind 115 = .ok (.invokevirtual 127, 3) := by decide +kernel
theorem dX7_kind_118 : decode cX7_kind 118 = .ok (.ireturn, 1) := by decide +kernel
theorem dX7_farmer_0 : decode cX7_farmer 0 = .ok (.aload_n 0, 1) := by decide +kernel
theorem dX7_farmer_1 : decode cX7_farmer 1 = .ok (.getfield 7, 3) := by decide +kernel
theorem dX7_farmer_4 : decode cX7_farmer 4 = .ok (.bipush 28, 2) := by decide +kernel
theorem dX7_farmer_6 : decode cX7_farmer 6 = .ok (.iaload, 1) := by decide +kernel
theorem dX7_farmer_7 : decode cX7_farmer 7 = .ok (.bipush 8, 2) := by decide +kernel
theorem dX7_farmer_9 : decode cX7_farmer 9 = .ok (.if_icmp .ne 6, 3) := by decide +kernel
theorem dX7_farmer_12 : decode cX7_farmer 12 = .ok (.ldc 101, 2) := by decide +kernel
theorem dX7_farmer_14 : decode cX7_farmer 14 = .ok (.ireturn, 1) := by decide +kernel
theorem dX7_farmer_15 : decode cX7_farmer 15 = .ok (.aload_n 0, 1) := by decide +kernel
theorem dX7_farmer_16 : decode cX7_farmer 16 = .ok (.invokevirtual 124, 3) := by decide +kernel
theorem dX7_farmer_19 : decode cX7_farmer 19 = .ok (.aload_n 0, 1) := by decide +kernel
theorem dX7_farmer_20 : decode cX7_farmer 20 = .ok (.getfield 7, 3) := by decide +kernel
theorem dX7_farmer_23 : decode cX7_farmer 23 = .ok (.bipush 48, 2) := by decide +kernel
theorem dX7_farmer_25 : decode cX7_farmer 25 = .ok (.aload_n 0, 1) := by decide +kernel
theorem dX7_farmer_26 : decode cX7_farmer 26 = .ok (.getfield 7, 3) := by decide +kernel
theorem dX7_farmer_29 : decode cX7_farmer 29 = .ok (.bipush 28, 2) := by decide +kernel
theorem dX7_farmer_31 : decode cX7_farmer 31 = .ok (.iaload, 1) := by decide +kernel
theorem dX7_farmer_32 : decode cX7_farmer 32 = .ok (.iadd, 1) := by decide +kernel
theorem dX7_farmer_33 : decode cX7_farmer 33 = .ok (.iconst 0, 1) := by decide +kernel
theorem dX7_farmer_34 : decode cX7_farmer 34 = .ok (.iastore, 1) := by decide +kernel
theorem dX7_farmer_35 : decode cX7_farmer 35 = .ok (.aload_n 0, 1) := by decide +kernel
theorem dX7_farmer_36 : decode cX7_farmer 36 = .ok (.getfield 7, 3) := by decide +kernel
theorem dX7_farmer_39 : decode cX7_farmer 39 = .ok (.bipush 28, 2) := by decide +kernel
theorem dX7_farmer_41 : decode cX7_farmer 41 = .ok (.dup2, 1) := by decide +kernel
theorem dX7_farmer_42 : decode cX7_farmer 42 = .ok (.iaload, 1) := by decide +kernel
theorem dX7_farmer_43 : decode cX7_farmer 43 = .ok (.iconst 1, 1) := by decide +kernel
theorem dX7_farmer_44 : decode cX7_farmer 44 = .ok (.iadd, 1) := by decide +kernel
theorem dX7_farmer_45 : decode cX7_farmer 45 = .ok (.iastore, 1) := by decide +kernel
theorem dX7_farmer_46 : decode cX7_farmer 46 = .ok (.aload_n 0, 1) := by decide +kernel
theorem dX7_farmer_47 : decode cX7_farmer 47 = .ok (.aload_n 0, 1) := by decide +kernel
theorem dX7_farmer_48 : decode cX7_farmer 48 = .ok (.getfield 7, 3) := by decide +kernel
theorem dX7_farmer_51 : decode cX7_farmer 51 = .ok (.bipush 28, 2) := by decide +kernel
theorem dX7_farmer_53 : decode cX7_farmer 53 = .ok (.iaload, 1) := by decide +kernel
theorem dX7_farmer_54 : decode cX7_farmer 54 = .ok (.iconst 1, 1) := by decide +kernel
theorem dX7_farmer_55 : decode cX7_farmer 55 = .ok (.isub, 1) := by decide +kernel
theorem dX7_farmer_56 : decode cX7_farmer 56 = .ok (.invokevirtual 127, 3) := by decide +kernel
theorem dX7_farmer_59 : decode cX7_farmer 59 = .ok (.ireturn, 1) := by decide +kernel
theorem dX7_bring_0 : decode cX7_bring 0 = .ok (.aload_n 0, 1) := by decide +kernel
theorem dX7_bring_1 : decode cX7_bring 1 = .ok (.invokevirtual 124, 3) := by decide +kernel
theorem dX7_bring_4 : decode cX7_bring 4 = .ok (.aload_n 0, 1) := by decide +kernel
theorem dX7_bring_5 : decode cX7_bring 5 = .ok (.aload_n 0, 1) := by decide +kernel
theorem dX7_bring_6 : decode cX7_bring 6 = .ok (.iload_n 1, 1) := by decide +kernel
theorem dX7_bring_7 : decode cX7_bring 7 = .ok (.iload_n 2, 1) := by decide +kernel
theorem dX7_bring_8 : decode cX7_bring 8 = .ok (.iload_n 3, 1) := by decide +kernel
theorem dX7_bring_9 : decode cX7_bring 9 = .ok (.invokevirtual 134, 3) := by decide +kernel
theorem dX7_bring_12 : decode cX7_bring 12 = .ok (.invokevirtual 127, 3) := by decide +kernel
theorem dX7_bring_15 : decode cX7_bring 15 = .ok (.ireturn, 1) := by decide +kernel
theorem dX7_withdraw_0 : decode cX7_withdraw 0 = .ok (.aload_n 0, 1) := by decide +kernel
theorem dX7_withdraw_1 : decode cX7_withdraw 1 = .ok (.iload_n 1, 1) := by decide +kernel
theorem dX7_withdraw_2 : decode cX7_withdraw 2 = .ok (.invokevirtual 102, 3) := by decide +kernel
theorem dX7_withdraw_5 : decode cX7_withdraw 5 = .ok (.ifCond .ne 6, 3) := by decide +kernel
theorem dX7_withdraw_8 : decode cX7_withdraw 8 = .ok (.ldc 33, 2) := by decide +kernel
theorem dX7_withdraw_10 : decode cX7_withdraw 10 = .ok (.ireturn, 1) := by decide +kernel
theorem dX7_withdraw_11 : decode cX7_withdraw 11 = .ok (.aload_n 0, 1) := by decide +kernel
theorem dX7_withdraw_12 : decode cX7_withdraw 12 = .ok (.iload_n 1, 1) := by decide +kernel
theorem dX7_withdraw_13 : decode cX7_withdraw 13 = .ok (.iconst 3, 1) := by decide +kernel
theorem dX7_withdraw_14 : decode cX7_withdraw 14 = .ok (.invokevirtual 38, 3) := by decide +kernel
theorem dX7_withdraw_17 : decode cX7_withdraw 17 = .ok (.ifCond .eq 6, 3) := by decide +kernel
theorem dX7_withdraw_20 : decode cX7_withdraw 20 = .ok (.ldc 105, 2) := by decide +kernel
theorem dX7_withdraw_22 : decode cX7_withdraw 22 = .ok (.ireturn, 1) := by decide +kernel
theorem dX7_withdraw_23 : decode cX7_withdraw 23 = .ok (.aload_n 0, 1) := by decide +kernel
theorem dX7_withdraw_24 : decode cX7_withdraw 24 = .ok (.invokevirtual 124, 3) := by decide +kernel
theorem dX7_withdraw_27 : decode cX7_withdraw 27 = .ok (.aload_n 0, 1) := by decide +kernel
theorem dX7_withdraw_28 : decode cX7_withdraw 28 = .ok (.iload_n 1, 1) := by decide +kernel
theorem dX7_withdraw_29 : decode cX7_withdraw 29 = .ok (.bipush 11, 2) := by decide +kernel
theorem dX7_withdraw_31 : decode cX7_withdraw 31 = .ok (.aload_n 0, 1) := by decide +kernel
theorem dX7_withdraw_32 : decode cX7_withdraw 32 = .ok (.iload_n 1, 1) := by decide +kernel
theorem dX7_withdraw_33 : decode cX7_withdraw 33 = .ok (.iconst 2, 1) := by decide +kernel
theorem dX7_withdraw_34 : decode cX7_withdraw 34 = .ok (.invokevirtual 38, 3) := by decide +kernel
theorem dX7_withdraw_37 : decode cX7_withdraw 37 = .ok (.invokevirtual 64, 3) := by decide +kernel
theorem dX7_withdraw_40 : decode cX7_withdraw 40 = .ok (.aload_n 0, 1) := by decide +kernel
theorem dX7_withdraw_41 : decode cX7_withdraw 41 = .ok (.iload_n 1, 1) := by decide +kernel
theorem dX7_withdraw_42 : decode cX7_withdraw 42 = .ok (.iconst 3, 1) := by decide +kernel
theorem dX7_withdraw_43 : decode cX7_withdraw 43 = .ok (.iconst 3, 1) := by decide +kernel
theorem dX7_withdraw_44 : decode cX7_withdraw 44 = .ok (.invokevirtual 64, 3) := by decide +kernel
theorem dX7_withdraw_47 : decode cX7_withdraw 47 = .ok (.aload_n 0, 1) := by decide +kernel
theorem dX7_withdraw_48 : decode cX7_withdraw 48 = .ok (.aload_n 0, 1) := by decide +kernel
theorem dX7_withdraw_49 : decode cX7_withdraw 49 = .ok (.iload_n 1, 1) := by decide +kernel
theorem dX7_withdraw_50 : decode cX7_withdraw 50 = .ok (.iconst 2, 1) := by decide +kernel
theorem dX7_withdraw_51 : decode cX7_withdraw 51 = .ok (.invokevirtual 38, 3) := by decide +kernel
theorem dX7_withdraw_54 : decode cX7_withdraw 54 = .ok (.invokevirtual 127, 3) := by decide +kernel
theorem dX7_withdraw_57 : decode cX7_withdraw 57 = .ok (.ireturn, 1) := by decide +kernel
theorem dX7_fetch_0 : decode cX7_fetch 0 = .ok (.aload_n 0, 1) := by decide +kernel
theorem dX7_fetch_1 : decode cX7_fetch 1 = .ok (.invokevirtual 124, 3) := by decide +kernel
theorem dX7_fetch_4 : decode cX7_fetch 4 = .ok (.aload_n 0, 1) := by decide +kernel
theorem dX7_fetch_5 : decode cX7_fetch 5 = .ok (.aload_n 0, 1) := by decide +kernel
theorem dX7_fetch_6 : decode cX7_fetch 6 = .ok (.iload_n 1, 1) := by decide +kernel
theorem dX7_fetch_7 : decode cX7_fetch 7 = .ok (.invokevirtual 138, 3) := by decide +kernel
theorem dX7_fetch_10 : decode cX7_fetch 10 = .ok (.invokevirtual 127, 3) := by decide +kernel
theorem dX7_fetch_13 : decode cX7_fetch 13 = .ok (.ireturn, 1) := by decide +kernel
theorem dX7_told_0 : decode cX7_told 0 = .ok (.iload_n 2, 1) := by decide +kernel
theorem dX7_told_1 : decode cX7_told 1 = .ok (.tableswitch 91 4 10 #[43, 49, 55, 61, 67, 75, 83], 43) := by decide +kernel
theorem dX7_told_44 : decode cX7_told 44 = .ok (.aload_n 0, 1) := by decide +kernel
theorem dX7_told_45 : decode cX7_told 45 = .ok (.iload_n 1, 1) := by decide +kernel
theorem dX7_told_46 : decode cX7_told 46 = .ok (.invokevirtual 82, 3) := by decide +kernel
theorem dX7_told_49 : decode cX7_told 49 = .ok (.ireturn, 1) := by decide +kernel
theorem dX7_told_50 : decode cX7_told 50 = .ok (.aload_n 0, 1) := by decide +kernel
theorem dX7_told_51 : decode cX7_told 51 = .ok (.iload_n 1, 1) := by decide +kernel
theorem dX7_told_52 : decode cX7_told 52 = .ok (.invokevirtual 106, 3) := by decide +kernel
theorem dX7_told_55 : decode cX7_told 55 = .ok (.ireturn, 1) := by decide +kernel
theorem dX7_told_56 : decode cX7_told 56 = .ok (.aload_n 0, 1) := by decide +kernel
theorem dX7_told_57 : decode cX7_told 57 = .ok (.iload_n 1, 1) := by decide +kernel
theorem dX7_told_58 : decode cX7_told 58 = .ok (.invokevirtual 42, 3) := by decide +kernel
theorem dX7_told_61 : decode cX7_told 61 = .ok (.ireturn, 1) := by decide +kernel
theorem dX7_told_62 : decode cX7_told 62 = .ok (.aload_n 0, 1) := by decide +kernel
theorem dX7_told_63 : decode cX7_told 63 = .ok (.iload_n 1, 1) := by decide +kernel
theorem dX7_told_64 : decode cX7_told 64 = .ok (.invokevirtual 46, 3) := by decide +kernel
theorem dX7_told_67 : decode cX7_told 67 = .ok (.ireturn, 1) := by decide +kernel
theorem dX7_told_68 : decode cX7_told 68 = .ok (.aload_n 0, 1) := by decide +kernel
theorem dX7_told_69 : decode cX7_told 69 = .ok (.iload_n 1, 1) := by decide +kernel
theorem dX7_told_70 : decode cX7_told 70 = .ok (.bipush 6, 2) := by decide +kernel
theorem dX7_told_72 : decode cX7_told 72 = .ok (.invokevirtual 38, 3) := by decide +kernel
theorem dX7_told_75 : decode cX7_told 75 = .ok (.ireturn, 1) := by decide +kernel
theorem dX7_told_76 : decode cX7_told 76 = .ok (.aload_n 0, 1) := by decide +kernel
theorem dX7_told_77 : decode cX7_told 77 = .ok (.iload_n 1, 1) := by decide +kernel
theorem dX7_told_78 : decode cX7_told 78 = .ok (.bipush 10, 2) := by decide +kernel
theorem dX7_told_80 : decode cX7_told 80 = .ok (.invokevirtual 38, 3) := by decide +kernel
theorem dX7_told_83 : decode cX7_told 83 = .ok (.ireturn, 1) := by decide +kernel
theorem dX7_told_84 : decode cX7_told 84 = .ok (.aload_n 0, 1) := by decide +kernel
theorem dX7_told_85 : decode cX7_told 85 = .ok (.iload_n 1, 1) := by decide +kernel
theorem dX7_told_86 : decode cX7_told 86 = .ok (.bipush 11, 2) := by decide +kernel
theorem dX7_told_88 : decode cX7_told 88 = .ok (.invokevirtual 38, 3) := by decide +kernel
theorem dX7_told_91 : decode cX7_told 91 = .ok (.ireturn, 1) := by decide +kernel
theorem dX7_told_92 : decode cX7_told 92 = .ok (.aload_n 0, 1) := by decide +kernel
theorem dX7_told_93 : decode cX7_told 93 = .ok (.iload_n 1, 1) := by decide +kernel
theorem dX7_told_94 : decode cX7_told 94 = .ok (.iload_n 2, 1) := by decide +kernel
theorem dX7_told_95 : decode cX7_told 95 = .ok (.invokevirtual 38, 3) := by decide +kernel
theorem dX7_told_98 : decode cX7_told 98 = .ok (.ireturn, 1) := by decide +kernel
theorem dX7_sum_0 : decode cX7_sum 0 = .ok (.iconst 0, 1) := by decide +kernel
theorem dX7_sum_1 : decode cX7_sum 1 = .ok (.istore 4, 2) := by decide +kernel
theorem dX7_sum_3 : decode cX7_sum 3 = .ok (.iconst 0, 1) := by decide +kernel
theorem dX7_sum_4 : decode cX7_sum 4 = .ok (.istore 5, 2) := by decide +kernel
theorem dX7_sum_6 : decode cX7_sum 6 = .ok (.iload 5, 2) := by decide +kernel
theorem dX7_sum_8 : decode cX7_sum 8 = .ok (.aload_n 0, 1) := by decide +kernel
theorem dX7_sum_9 : decode cX7_sum 9 = .ok (.getfield 7, 3) := by decide +kernel
theorem dX7_sum_12 : decode cX7_sum 12 = .ok (.bipush 29, 2) := by decide +kernel
theorem dX7_sum_14 : decode cX7_sum 14 = .ok (.iaload, 1) := by decide +kernel
theorem dX7_sum_15 : decode cX7_sum 15 = .ok (.if_icmp .ge 67, 3) := by decide +kernel
theorem dX7_sum_18 : decode cX7_sum 18 = .ok (.iload_n 1, 1) := by decide +kernel
theorem dX7_sum_19 : decode cX7_sum 19 = .ok (.ifCond .lt 14, 3) := by decide +kernel
theorem dX7_sum_22 : decode cX7_sum 22 = .ok (.aload_n 0, 1) := by decide +kernel
theorem dX7_sum_23 : decode cX7_sum 23 = .ok (.iload 5, 2) := by decide +kernel
theorem dX7_sum_25 : decode cX7_sum 25 = .ok (.iconst 0, 1) := by decide +kernel
theorem dX7_sum_26 : decode cX7_sum 26 = .ok (.invokevirtual 38, 3) := by decide +kernel
theorem dX7_sum_29 : decode cX7_sum 29 = .ok (.iload_n 1, 1) := by decide +kernel
theorem dX7_sum_30 : decode cX7_sum 30 = .ok (.if_icmp .ne 22, 3) := by decide +kernel
theorem dX7_sum_33 : decode cX7_sum 33 = .ok (.iload_n 2, 1) := by decide +kernel
theorem dX7_sum_34 : decode cX7_sum 34 = .ok (.ifCond .lt 14, 3) := by decide +kernel
theorem dX7_sum_37 : decode cX7_sum 37 = .ok (.aload_n 0, 1) := by decide +kernel
theorem dX7_sum_38 : decode cX7_sum 38 = .ok (.iload 5, 2) := by decide +kernel
theorem dX7_sum_40 : decode cX7_sum 40 = .ok (.iconst 1, 1) := by decide +kernel
theorem dX7_sum_41 : decode cX7_sum 41 = .ok (.invokevirtual 38, 3) := by decide +kernel
theorem dX7_sum_44 : decode cX7_sum 44 = .ok (.iload_n 2, 1) := by decide +kernel
theorem dX7_sum_45 : decode cX7_sum 45 = .ok (.if_icmp .ne 7, 3) := by decide +kernel
theorem dX7_sum_48 : decode cX7_sum 48 = .ok (.iconst 1, 1) := by decide +kernel
theorem dX7_sum_49 : decode cX7_sum 49 = .ok (.goto 4, 3) := by decide +kernel
theorem dX7_sum_52 : decode cX7_sum 52 = .ok (.iconst 0, 1) := by decide +kernel
theorem dX7_sum_53 : decode cX7_sum 53 = .ok (.istore 6, 2) := by decide +kernel
theorem dX7_sum_55 : decode cX7_sum 55 = .ok (.iload 4, 2) := by decide +kernel
theorem dX7_sum_57 : decode cX7_sum 57 = .ok (.iload 6, 2) := by decide +kernel
theorem dX7_sum_59 : decode cX7_sum 59 = .ok (.ifCond .eq 13, 3) := by decide +kernel
theorem dX7_sum_62 : decode cX7_sum 62 = .ok (.aload_n 0, 1) := by decide +kernel
theorem dX7_sum_63 : decode cX7_sum 63 = .ok (.iload 5, 2) := by decide +kernel
theorem dX7_sum_65 : decode cX7_sum 65 = .ok (.iload_n 3, 1) := by decide +kernel
theorem dX7_sum_66 : decode cX7_sum 66 = .ok (.invokevirtual 141, 3) := by decide +kernel
theorem dX7_sum_69 : decode cX7_sum 69 = .ok (.goto 4, 3) := by decide +kernel
theorem dX7_sum_72 : decode cX7_sum 72 = .ok (.iconst 0, 1) := by decide +kernel
theorem dX7_sum_73 : decode cX7_sum 73 = .ok (.iadd, 1) := by decide +kernel
theorem dX7_sum_74 : decode cX7_sum 74 = .ok (.istore 4, 2) := by decide +kernel
theorem dX7_sum_76 : decode cX7_sum 76 = .ok (.iinc 5 1, 3) := by decide +kernel
theorem dX7_sum_79 : decode cX7_sum 79 = .ok (.goto (-73), 3) := by decide +kernel
theorem dX7_sum_82 : decode cX7_sum 82 = .ok (.iload 4, 2) := by decide +kernel
theorem dX7_sum_84 : decode cX7_sum 84 = .ok (.ireturn, 1) := by decide +kernel
theorem dX7_many_0 : decode cX7_many 0 = .ok (.iconst 0, 1) := by decide +kernel
theorem dX7_many_1 : decode cX7_many 1 = .ok (.istore 4, 2) := by decide +kernel
theorem dX7_many_3 : decode cX7_many 3 = .ok (.iconst 0, 1) := by decide +kernel
theorem dX7_many_4 : decode cX7_many 4 = .ok (.istore 5, 2) := by decide +kernel
theorem dX7_many_6 : decode cX7_many 6 = .ok (.iload 5, 2) := by decide +kernel
theorem dX7_many_8 : decode cX7_many 8 = .ok (.aload_n 0, 1) := by decide +kernel
theorem dX7_many_9 : decode cX7_many 9 = .ok (.getfield 7, 3) := by decide +kernel
theorem dX7_many_12 : decode cX7_many 12 = .ok (.bipush 29, 2) := by decide +kernel
theorem dX7_many_14 : decode cX7_many 14 = .ok (.iaload, 1) := by decide +kernel
theorem dX7_many_15 : decode cX7_many 15 = .ok (.if_icmp .ge 76, 3) := by decide +kernel
theorem dX7_many_18 : decode cX7_many 18 = .ok (.iload_n 1, 1) := by decide +kernel
theorem dX7_many_19 : decode cX7_many 19 = .ok (.ifCond .lt 14, 3) := by decide +kernel
theorem dX7_many_22 : decode cX7_many 22 = .ok (.aload_n 0, 1) := by decide +kernel
theorem dX7_many_23 : decode cX7_many 23 = .ok (.iload 5, 2) := by decide +kernel
theorem dX7_many_25 : decode cX7_many 25 = .ok (.iconst 0, 1) := by decide +kernel
theorem dX7_many_26 : decode cX7_many 26 = .ok (.invokevirtual 38, 3) := by decide +kernel
theorem dX7_many_29 : decode cX7_many 29 = .ok (.iload_n 1, 1) := by decide +kernel
theorem dX7_many_30 : decode cX7_many 30 = .ok (.if_icmp .ne 22, 3) := by decide +kernel
theorem dX7_many_33 : decode cX7_many 33 = .ok (.iload_n 2, 1) := by decide +kernel
theorem dX7_many_34 : decode cX7_many 34 = .ok (.ifCond .lt 14, 3) := by decide +kernel
theorem dX7_many_37 : decode cX7_many 37 = .ok (.aload_n 0, 1) := by decide +kernel
theorem dX7_many_38 : decode cX7_many 38 = .ok (.iload 5, 2) := by decide +kernel
theorem dX7_many_40 : decode cX7_many 40 = .ok (.iconst 1, 1) := by decide +kernel
theorem dX7_many_41 : decode cX7_many 41 = .ok (.invokevirtual 38, 3) := by decide +kernel
theorem dX7_many_44 : decode cX7_many 44 = .ok (.iload_n 2, 1) := by decide +kernel
theorem dX7_many_45 : decode cX7_many 45 = .ok (.if_icmp .ne 7, 3) := by decide +kernel
theorem dX7_many_48 : decode cX7_many 48 = .ok (.iconst 1, 1) := by decide +kernel
theorem dX7_many_49 : decode cX7_many 49 = .ok (.goto 4, 3) := by decide +kernel
theorem dX7_many_52 : decode cX7_many 52 = .ok (.iconst 0, 1) := by decide +kernel
theorem dX7_many_53 : decode cX7_many 53 = .ok (.istore 6, 2) := by decide +kernel
theorem dX7_many_55 : decode cX7_many 55 = .ok (.iload 4, 2) := by decide +kernel
theorem dX7_many_57 : decode cX7_many 57 = .ok (.iload 6, 2) := by decide +kernel
theorem dX7_many_59 : decode cX7_many 59 = .ok (.ifCond .eq 22, 3) := by decide +kernel
theorem dX7_many_62 : decode cX7_many 62 = .ok (.iload_n 3, 1) := by decide +kernel
theorem dX7_many_63 : decode cX7_many 63 = .ok (.ifCond .eq 14, 3) := by decide +kernel
theorem dX7_many_66 : decode cX7_many 66 = .ok (.aload_n 0, 1) := by decide +kernel
theorem dX7_many_67 : decode cX7_many 67 = .ok (.iload 5, 2) := by decide +kernel
theorem dX7_many_69 : decode cX7_many 69 = .ok (.bipush 6, 2) := by decide +kernel
theorem dX7_many_71 : decode cX7_many 71 = .ok (.invokevirtual 38, 3) := by decide +kernel
theorem dX7_many_74 : decode cX7_many 74 = .ok (.ifCond .le 7, 3) := by decide +kernel
theorem dX7_many_77 : decode cX7_many 77 = .ok (.iconst 1, 1) := by decide +kernel
theorem dX7_many_78 : decode cX7_many 78 = .ok (.goto 4, 3) := by decide +kernel
theorem dX7_many_81 : decode cX7_many 81 = .ok (.iconst 0, 1) := by decide +kernel
theorem dX7_many_82 : decode cX7_many 82 = .ok (.iadd, 1) := by decide +kernel
theorem dX7_many_83 : decode cX7_many 83 = .ok (.istore 4, 2) := by decide +kernel
theorem dX7_many_85 : decode cX7_many 85 = .ok (.iinc 5 1, 3) := by decide +kernel
theorem dX7_many_88 : decode cX7_many 88 = .ok (.goto (-82), 3) := by decide +kernel
theorem dX7_many_91 : decode cX7_many 91 = .ok (.iload 4, 2) := by decide +kernel
theorem dX7_many_93 : decode cX7_many 93 = .ok (.ireturn, 1) := by decide +kernel
theorem dX7_kindOf_0 : decode cX7_kindOf 0 = .ok (.aload_n 0, 1) := by decide +kernel
theorem dX7_kindOf_1 : decode cX7_kindOf 1 = .ok (.iload_n 1, 1) := by decide +kernel
theorem dX7_kindOf_2 : decode cX7_kindOf 2 = .ok (.invokevirtual 98, 3) := by decide +kernel
theorem dX7_kindOf_5 : decode cX7_kindOf 5 = .ok (.ifCond .eq 12, 3) := by decide +kernel
theorem dX7_kindOf_8 : decode cX7_kindOf 8 = .ok (.iload_n 2, 1) := by decide +kernel
theorem dX7_kindOf_9 : decode cX7_kindOf 9 = .ok (.iconst 0, 1) := by decide +kernel
theorem dX7_kindOf_10 : decode cX7_kindOf 10 = .ok (.iconst 5, 1) := by decide +kernel
theorem dX7_kindOf_11 : decode cX7_kindOf 11 = .ok (.invokestatic 29, 3) := by decide +kernel
theorem dX7_kindOf_14 : decode cX7_kindOf 14 = .ok (.ifCond .ne 6, 3) := by decide +kernel
theorem dX7_kindOf_17 : decode cX7_kindOf 17 = .ok (.ldc 33, 2) := by decide +kernel
theorem dX7_kindOf_19 : decode cX7_kindOf 19 = .ok (.ireturn, 1) := by decide +kernel
theorem dX7_kindOf_20 : decode cX7_kindOf 20 = .ok (.iload_n 2, 1) := by decide +kernel
theorem dX7_kindOf_21 : decode cX7_kindOf 21 = .ok (.iconst 3, 1) := by decide +kernel
theorem dX7_kindOf_22 : decode cX7_kindOf 22 = .ok (.if_icmp .ge 19, 3) := by decide +kernel
theorem dX7_kindOf_25 : decode cX7_kindOf 25 = .ok (.aload_n 0, 1) := by decide +kernel
theorem dX7_kindOf_26 : decode cX7_kindOf 26 = .ok (.getfield 7, 3) := by decide +kernel
theorem dX7_kindOf_29 : decode cX7_kindOf 29 = .ok (.bipush 30, 2) := by decide +kernel
theorem dX7_kindOf_31 : decode cX7_kindOf 31 = .ok (.iconst 3, 1) := by decide +kernel
theorem dX7_kindOf_32 : decode cX7_kindOf 32 = .ok (.iload_n 1, 1) := by decide +kernel
theorem dX7_kindOf_33 : decode cX7_kindOf 33 = .ok (.imul, 1) := by decide +kernel
theorem dX7_kindOf_34 : decode cX7_kindOf 34 = .ok (.iadd, 1) := by decide +kernel
theorem dX7_kindOf_35 : decode cX7_kindOf 35 = .ok (.iload_n 2, 1) := by decide +kernel
theorem dX7_kindOf_36 : decode cX7_kindOf 36 = .ok (.iadd, 1) := by decide +kernel
theorem dX7_kindOf_37 : decode cX7_kindOf 37 = .ok (.iaload, 1) := by decide +kernel
theorem dX7_kindOf_38 : decode cX7_kindOf 38 = .ok (.goto 36, 3) := by decide +kernel
theorem dX7_kindOf_41 : decode cX7_kindOf 41 = .ok (.iload_n 2, 1) := by decide +kernel
theorem dX7_kindOf_42 : decode cX7_kindOf 42 = .ok (.iconst 3, 1) := by decide +kernel
theorem dX7_kindOf_43 : decode cX7_kindOf 43 = .ok (.if_icmp .ne 13, 3) := by decide +kernel
theorem dX7_kindOf_46 : decode cX7_kindOf 46 = .ok (.aload_n 0, 1) := by decide +kernel
theorem dX7_kindOf_47 : decode cX7_kindOf 47 = .ok (.iconst (-1), 1) := by decide +kernel
theorem dX7_kindOf_48 : decode cX7_kindOf 48 = .ok (.iload_n 1, 1) := by decide +kernel
theorem dX7_kindOf_49 : decode cX7_kindOf 49 = .ok (.iconst 0, 1) := by decide +kernel
theorem dX7_kindOf_50 : decode cX7_kindOf 50 = .ok (.invokevirtual 144, 3) := by decide +kernel
theorem dX7_kindOf_53 : decode cX7_kindOf 53 = .ok (.goto 21, 3) := by decide +kernel
theorem dX7_kindOf_56 : decode cX7_kindOf 56 = .ok (.aload_n 0, 1) := by decide +kernel
theorem dX7_kindOf_57 : decode cX7_kindOf 57 = .ok (.iconst (-1), 1) := by decide +kernel
theorem dX7_kindOf_58 : decode cX7_kindOf 58 = .ok (.iload_n 1, 1) := by decide +kernel
theorem dX7_kindOf_59 : decode cX7_kindOf 59 = .ok (.iload_n 2, 1) := by decide +kernel
theorem dX7_kindOf_60 : decode cX7_kindOf 60 = .ok (.iconst 4, 1) := by decide +kernel
theorem dX7_kindOf_61 : decode cX7_kindOf 61 = .ok (.if_icmp .ne 8, 3) := by decide +kernel
theorem dX7_kindOf_64 : decode cX7_kindOf 64 = .ok (.bipush 6, 2) := by decide +kernel
theorem dX7_kindOf_66 : decode cX7_kindOf 66 = .ok (.goto 5, 3) := by decide +kernel
theorem dX7_kindOf_69 : decode cX7_kindOf 69 = .ok (.bipush 9, 2) := by decide +kernel
theorem dX7_kindOf_71 : decode cX7_kindOf 71 = .ok (.invokevirtual 148, 3) := by decide +kernel
theorem dX7_kindOf_74 : decode cX7_kindOf 74 = .ok (.ireturn, 1) := by decide +kernel
theorem dX7_farmerOf_0 : decode cX7_farmerOf 0 = .ok (.aload_n 0, 1) := by decide +kernel
theorem dX7_farmerOf_1 : decode cX7_farmerOf 1 = .ok (.iload_n 1, 1) := by decide +kernel
theorem dX7_farmerOf_2 : decode cX7_farmerOf 2 = .ok (.invokevirtual 94, 3) := by decide +kernel
theorem dX7_farmerOf_5 : decode cX7_farmerOf 5 = .ok (.ifCond .eq 12, 3) := by decide +kernel
theorem dX7_farmerOf_8 : decode cX7_farmerOf 8 = .ok (.iload_n 2, 1) := by decide +kernel
theorem dX7_farmerOf_9 : decode cX7_farmerOf 9 = .ok (.iconst 0, 1) := by decide +kernel
theorem dX7_farmerOf_10 : decode cX7_farmerOf 10 = .ok (.iconst 5, 1) := by decide +kernel
theorem dX7_farmerOf_11 : decode cX7_farmerOf 11 = .ok (.invokestatic 29, 3) := by decide +kernel
theorem dX7_farmerOf_14 : decode cX7_farmerOf 14 = .ok (.ifCond .ne 6, 3) := by decide +kernel
theorem dX7_farmerOf_17 : decode cX7_farmerOf 17 = .ok (.ldc 33, 2) := by decide +kernel
theorem dX7_farmerOf_19 : decode cX7_farmerOf 19 = .ok (.ireturn, 1) := by decide +kernel
theorem dX7_farmerOf_20 : decode cX7_farmerOf 20 = .ok (.iload_n 2, 1) := by decide +kernel
theorem dX7_farmerOf_21 : decode cX7_farmerOf 21 = .ok (.tableswitch 63 0 3 #[31, 41, 49, 55], 31) := by decide +kernel
theorem dX7_farmerOf_52 : decode cX7_farmerOf 52 = .ok (.aload_n 0, 1) := by decide +kernel
theorem dX7_farmerOf_53 : decode cX7_farmerOf 53 = .ok (.getfield 7, 3) := by decide +kernel
theorem dX7_farmerOf_56 : decode cX7_farmerOf 56 = .ok (.bipush 48, 2) := by decide +kernel
theorem dX7_farmerOf_58 : decode cX7_farmerOf 58 = .ok (.iload_n 1, 1) := by decide +kernel
theorem dX7_farmerOf_59 : decode cX7_farmerOf 59 = .ok (.iadd, 1) := by decide +kernel
theorem dX7_farmerOf_60 : decode cX7_farmerOf 60 = .ok (.iaload, 1) := by decide +kernel
theorem dX7_farmerOf_61 : decode cX7_farmerOf 61 = .ok (.ireturn, 1) := by decide +kernel
theorem dX7_farmerOf_62 : decode cX7_farmerOf 62 = .ok (.aload_n 0, 1) := by decide +kernel
theorem dX7_farmerOf_63 : decode cX7_farmerOf 63 = .ok (.iload_n 1, 1) := by decide +kernel
theorem dX7_farmerOf_64 : decode cX7_farmerOf 64 = .ok (.iconst (-1), 1) := by decide +kernel
theorem dX7_farmerOf_65 : decode cX7_farmerOf 65 = .ok (.iconst 0, 1) := by decide +kernel
theorem dX7_farmerOf_66 : decode cX7_farmerOf 66 = .ok (.invokevirtual 144, 3) := by decide +kernel
theorem dX7_farmerOf_69 : decode cX7_farmerOf 69 = .ok (.ireturn, 1) := by decide +kernel
theorem dX7_farmerOf_70 : decode cX7_farmerOf 70 = .ok (.aload_n 0, 1) := by decide +kernel
theorem dX7_farmerOf_71 : decode cX7_farmerOf 71 = .ok (.iload_n 1, 1) := by decide +kernel
theorem dX7_farmerOf_72 : decode cX7_farmerOf 72 = .ok (.invokevirtual 49, 3) := by decide +kernel
theorem dX7_farmerOf_75 : decode cX7_farmerOf 75 = .ok (.ireturn, 1) := by decide +kernel
theorem dX7_farmerOf_76 : decode cX7_farmerOf 76 = .ok (.aload_n 0, 1) := by decide +kernel
theorem dX7_farmerOf_77 : decode cX7_farmerOf 77 = .ok (.iload_n 1, 1) := by decide +kernel
theorem dX7_farmerOf_78 : decode cX7_farmerOf 78 = .ok (.iconst (-1), 1) := by decide +kernel
theorem dX7_farmerOf_79 : decode cX7_farmerOf 79 = .ok (.iconst 1, 1) := by decide +kernel
theorem dX7_farmerOf_80 : decode cX7_farmerOf 80 = .ok (.invokevirtual 144, 3) := by decide +kernel
theorem dX7_farmerOf_83 : decode cX7_farmerOf 83 = .ok (.ireturn, 1) := by decide +kernel
theorem dX7_farmerOf_84 : decode cX7_farmerOf 84 = .ok (.aload_n 0, 1) := by decide +kernel
theorem dX7_farmerOf_85 : decode cX7_farmerOf 85 = .ok (.iload_n 1, 1) := by decide +kernel
theorem dX7_farmerOf_86 : decode cX7_farmerOf 86 = .ok (.iconst (-1), 1) := by decide +kernel
theorem dX7_farmerOf_87 : decode cX7_farmerOf 87 = .ok (.iload_n 2, 1) := by decide +kernel
theorem dX7_farmerOf_88 : decode cX7_farmerOf 88 = .ok (.iconst 4, 1) := by decide +kernel
theorem dX7_farmerOf_89 : decode cX7_farmerOf 89 = .ok (.if_icmp .ne 7, 3) := by decide +kernel
theorem dX7_farmerOf_92 : decode cX7_farmerOf 92 = .ok (.iconst 5, 1) := by decide +kernel
theorem dX7_farmerOf_93 : decode cX7_farmerOf 93 = .ok (.goto 5, 3) := by decide +kernel
theorem dX7_farmerOf_96 : decode cX7_farmerOf 96 = .ok (.bipush 10, 2) := by decide +kernel
theorem dX7_farmerOf_98 : decode cX7_farmerOf 98 = .ok (.invokevirtual 148, 3) := by decide +kernel
theorem dX7_farmerOf_101 : decode cX7_farmerOf 101 = .ok (.ireturn, 1) := by decide +kernel
theorem dX7_sackOf_0 : decode cX7_sackOf 0 = .ok (.aload_n 0, 1) := by decide +kernel
theorem dX7_sackOf_1 : decode cX7_sackOf 1 = .ok (.iload_n 1, 1) := by decide +kernel
theorem dX7_sackOf_2 : decode cX7_sackOf 2 = .ok (.invokevirtual 102, 3) := by decide +kernel
theorem dX7_sackOf_5 : decode cX7_sackOf 5 = .ok (.ifCond .eq 13, 3) := by decide +kernel
theorem dX7_sackOf_8 : decode cX7_sackOf 8 = .ok (.iload_n 2, 1) := by decide +kernel
theorem dX7_sackOf_9 : decode cX7_sackOf 9 = .ok (.iconst 0, 1) := by decide +kernel
theorem dX7_sackOf_10 : decode cX7_sackOf 10 = .ok (.bipush 11, 2) := by decide +kernel
theorem dX7_sackOf_12 : decode cX7_sackOf 12 = .ok (.invokestatic 29, 3) := by decide +kernel
theorem dX7_sackOf_15 : decode cX7_sackOf 15 = .ok (.ifCond .ne 6, 3) := by decide +kernel
theorem dX7_sackOf_18 : decode cX7_sackOf 18 = .ok (.ldc 33, 2) := by decide +kernel
theorem dX7_sackOf_20 : decode cX7_sackOf 20 = .ok (.ireturn, 1) := by decide +kernel
theorem dX7_sackOf_21 : decode cX7_sackOf 21 = .ok (.iload_n 2, 1) := by decide +kernel
theorem dX7_sackOf_22 : decode cX7_sackOf 22 = .ok (.bipush 11, 2) := by decide +kernel
theorem dX7_sackOf_24 : decode cX7_sackOf 24 = .ok (.if_icmp .ge 12, 3) := by decide +kernel
theorem dX7_sackOf_27 : decode cX7_sackOf 27 = .ok (.aload_n 0, 1) := by decide +kernel
theorem dX7_sackOf_28 : decode cX7_sackOf 28 = .ok (.iload_n 1, 1) := by decide +kernel
theorem dX7_sackOf_29 : decode cX7_sackOf 29 = .ok (.iload_n 2, 1) := by decide +kernel
theorem dX7_sackOf_30 : decode cX7_sackOf 30 = .ok (.invokevirtual 141, 3) := by decide +kernel
theorem dX7_sackOf_33 : decode cX7_sackOf 33 = .ok (.goto 22, 3) := by decide +kernel
theorem dX7_sackOf_36 : decode cX7_sackOf 36 = .ok (.aload_n 0, 1) := by decide +kernel
theorem dX7_sackOf_37 : decode cX7_sackOf 37 = .ok (.iload_n 1, 1) := by decide +kernel
theorem dX7_sackOf_38 : decode cX7_sackOf 38 = .ok (.iconst 3, 1) := by decide +kernel
theorem dX7_sackOf_39 : decode cX7_sackOf 39 = .ok (.invokevirtual 38, 3) := by decide +kernel
theorem dX7_sackOf_42 : decode cX7_sackOf 42 = .ok (.ifCond .ne 11, 3) := by decide +kernel
theorem dX7_sackOf_45 : decode cX7_sackOf 45 = .ok (.aload_n 0, 1) := by decide +kernel
theorem dX7_sackOf_46 : decode cX7_sackOf 46 = .ok (.iload_n 1, 1) := by decide +kernel
theorem dX7_sackOf_47 : decode cX7_sackOf 47 = .ok (.invokevirtual 58, 3) := by decide +kernel
theorem dX7_sackOf_50 : decode cX7_sackOf 50 = .ok (.goto 5, 3) := by decide +kernel
theorem dX7_sackOf_53 : decode cX7_sackOf 53 = .ok (.ldc 151, 2) := by decide +kernel
theorem dX7_sackOf_55 : decode cX7_sackOf 55 = .ok (.ireturn, 1) := by decide +kernel
theorem dX7_queueAt_0 : decode cX7_queueAt 0 = .ok (.iload_n 1, 1) := by decide +kernel
theorem dX7_queueAt_1 : decode cX7_queueAt 1 = .ok (.ifCond .ge 6, 3) := by decide +kernel
theorem dX7_queueAt_4 : decode cX7_queueAt 4 = .ok (.ldc 33, 2) := by decide +kernel
theorem dX7_queueAt_6 : decode cX7_queueAt 6 = .ok (.ireturn, 1) := by decide +kernel
theorem dX7_queueAt_7 : decode cX7_queueAt 7 = .ok (.aload_n 0, 1) := by decide +kernel
theorem dX7_queueAt_8 : decode cX7_queueAt 8 = .ok (.iload_n 1, 1) := by decide +kernel
theorem dX7_queueAt_9 : decode cX7_queueAt 9 = .ok (.invokevirtual 75, 3) := by decide +kernel
theorem dX7_queueAt_12 : decode cX7_queueAt 12 = .ok (.istore_n 2, 1) := by decide +kernel
theorem dX7_queueAt_13 : decode cX7_queueAt 13 = .ok (.iload_n 2, 1) := by decide +kernel
theorem dX7_queueAt_14 : decode cX7_queueAt 14 = .ok (.iconst (-1), 1) := by decide +kernel
theorem dX7_queueAt_15 : decode cX7_queueAt 15 = .ok (.if_icmp .ne 8, 3) := by decide +kernel
theorem dX7_queueAt_18 : decode cX7_queueAt 18 = .ok (.ldc 151, 2) := by decide +kernel
theorem dX7_queueAt_20 : decode cX7_queueAt 20 = .ok (.goto 4, 3) := by decide +kernel
theorem dX7_queueAt_23 : decode cX7_queueAt 23 = .ok (.iload_n 2, 1) := by decide +kernel
theorem dX7_queueAt_24 : decode cX7_queueAt 24 = .ok (.ireturn, 1) := by decide +kernel
theorem dX7_account_0 : decode cX7_account 0 = .ok (.iload_n 1, 1) := by decide +kernel
theorem dX7_account_1 : decode cX7_account 1 = .ok (.iconst (-1), 1) := by decide +kernel
theorem dX7_account_2 : decode cX7_account 2 = .ok (.aload_n 0, 1) := by decide +kernel
theorem dX7_account_3 : decode cX7_account 3 = .ok (.getfield 7, 3) := by decide +kernel
theorem dX7_account_6 : decode cX7_account 6 = .ok (.bipush 28, 2) := by decide +kernel
theorem dX7_account_8 : decode cX7_account 8 = .ok (.iaload, 1) := by decide +kernel
theorem dX7_account_9 : decode cX7_account 9 = .ok (.iconst 1, 1) := by decide +kernel
theorem dX7_account_10 : decode cX7_account 10 = .ok (.isub, 1) := by decide +kernel
theorem dX7_account_11 : decode cX7_account 11 = .ok (.invokestatic 29, 3) := by decide +kernel
theorem dX7_account_14 : decode cX7_account 14 = .ok (.ifCond .eq 35, 3) := by decide +kernel
theorem dX7_account_17 : decode cX7_account 17 = .ok (.iload_n 2, 1) := by decide +kernel
theorem dX7_account_18 : decode cX7_account 18 = .ok (.iconst (-1), 1) := by decide +kernel
theorem dX7_account_19 : decode cX7_account 19 = .ok (.aload_n 0, 1) := by decide +kernel
theorem dX7_account_20 : decode cX7_account 20 = .ok (.getfield 7, 3) := by decide +kernel
theorem dX7_account_23 : decode cX7_account 23 = .ok (.bipush 27, 2) := by decide +kernel
theorem dX7_account_25 : decode cX7_account 25 = .ok (.iaload, 1) := by decide +kernel
theorem dX7_account_26 : decode cX7_account 26 = .ok (.iconst 1, 1) := by decide +kernel
theorem dX7_account_27 : decode cX7_account 27 = .ok (.isub, 1) := by decide +kernel
theorem dX7_account_28 : decode cX7_account 28 = .ok (.invokestatic 29, 3) := by decide +kernel
theorem dX7_account_31 : decode cX7_account 31 = .ok (.ifCond .eq 18, 3) := by decide +kernel
theorem dX7_account_34 : decode cX7_account 34 = .ok (.iload_n 3, 1) := by decide +kernel
theorem dX7_account_35 : decode cX7_account 35 = .ok (.iconst 2, 1) := by decide +kernel
theorem dX7_account_36 : decode cX7_account 36 = .ok (.if_icmp .eq 16, 3) := by decide +kernel
theorem dX7_account_39 : decode cX7_account 39 = .ok (.iload_n 3, 1) := by decide +kernel
theorem dX7_account_40 : decode cX7_account 40 = .ok (.iconst 4, 1) := by decide +kernel
theorem dX7_account_41 : decode cX7_account 41 = .ok (.bipush 10, 2) := by decide +kernel
theorem dX7_account_43 : decode cX7_account 43 = .ok (.invokestatic 29, 3) := by decide +kernel
theorem dX7_account_46 : decode cX7_account 46 = .ok (.ifCond .ne 6, 3) := by decide +kernel
theorem dX7_account_49 : decode cX7_account 49 = .ok (.ldc 33, 2) := by decide +kernel
theorem dX7_account_51 : decode cX7_account 51 = .ok (.ireturn, 1) := by decide +kernel
theorem dX7_account_52 : decode cX7_account 52 = .ok (.aload_n 0, 1) := by decide +kernel
theorem dX7_account_53 : decode cX7_account 53 = .ok (.iload_n 1, 1) := by decide +kernel
theorem dX7_account_54 : decode cX7_account 54 = .ok (.iload_n 2, 1) := by decide +kernel
theorem dX7_account_55 : decode cX7_account 55 = .ok (.iload_n 3, 1) := by decide +kernel
theorem dX7_account_56 : decode cX7_account 56 = .ok (.invokevirtual 148, 3) := by decide +kernel
theorem dX7_account_59 : decode cX7_account 59 = .ok (.ireturn, 1) := by decide +kernel
theorem dX7_earn_0 : decode cX7_earn 0 = .ok (.aload_n 0, 1) := by decide +kernel
theorem dX7_earn_1 : decode cX7_earn 1 = .ok (.iload_n 1, 1) := by decide +kernel
theorem dX7_earn_2 : decode cX7_earn 2 = .ok (.invokevirtual 94, 3) := by decide +kernel
theorem dX7_earn_5 : decode cX7_earn 5 = .ok (.ifCond .eq 13, 3) := by decide +kernel
theorem dX7_earn_8 : decode cX7_earn 8 = .ok (.iload_n 2, 1) := by decide +kernel
theorem dX7_earn_9 : decode cX7_earn 9 = .ok (.iconst 1, 1) := by decide +kernel
theorem dX7_earn_10 : decode cX7_earn 10 = .ok (.ldc 152, 2) := by decide +kernel
theorem dX7_earn_12 : decode cX7_earn 12 = .ok (.invokestatic 29, 3) := by decide +kernel
theorem dX7_earn_15 : decode cX7_earn 15 = .ok (.ifCond .ne 6, 3) := by decide +kernel
theorem dX7_earn_18 : decode cX7_earn 18 = .ok (.ldc 33, 2) := by decide +kernel
theorem dX7_earn_20 : decode cX7_earn 20 = .ok (.ireturn, 1) := by decide +kernel
theorem dX7_earn_21 : decode cX7_earn 21 = .ok (.iload_n 2, 1) := by decide +kernel
theorem dX7_earn_22 : decode cX7_earn 22 = .ok (.ldc 114, 2) := by decide +kernel
theorem dX7_earn_24 : decode cX7_earn 24 = .ok (.aload_n 0, 1) := by decide +kernel
theorem dX7_earn_25 : decode cX7_earn 25 = .ok (.getfield 7, 3) := by decide +kernel
theorem dX7_earn_28 : decode cX7_earn 28 = .ok (.bipush 48, 2) := by decide +kernel
theorem dX7_earn_30 : decode cX7_earn 30 = .ok (.iload_n 1, 1) := by decide +kernel
theorem dX7_earn_31 : decode cX7_earn 31 = .ok (.iadd, 1) := by decide +kernel
theorem dX7_earn_32 : decode cX7_earn 32 = .ok (.iaload, 1) := by decide +kernel
theorem dX7_earn_33 : decode cX7_earn 33 = .ok (.isub, 1) := by decide +kernel
theorem dX7_earn_34 : decode cX7_earn 34 = .ok (.if_icmp .le 6, 3) := by decide +kernel
theorem dX7_earn_37 : decode cX7_earn 37 = .ok (.ldc 105, 2) := by decide +kernel
theorem dX7_earn_39 : decode cX7_earn 39 = .ok (.ireturn, 1) := by decide +kernel
theorem dX7_earn_40 : decode cX7_earn 40 = .ok (.aload_n 0, 1) := by decide +kernel
theorem dX7_earn_41 : decode cX7_earn 41 = .ok (.invokevirtual 124, 3) := by decide +kernel
theorem dX7_earn_44 : decode cX7_earn 44 = .ok (.aload_n 0, 1) := by decide +kernel
theorem dX7_earn_45 : decode cX7_earn 45 = .ok (.getfield 7, 3) := by decide +kernel
theorem dX7_earn_48 : decode cX7_earn 48 = .ok (.bipush 48, 2) := by decide +kernel
theorem dX7_earn_50 : decode cX7_earn 50 = .ok (.iload_n 1, 1) := by decide +kernel
theorem dX7_earn_51 : decode cX7_earn 51 = .ok (.iadd, 1) := by decide +kernel
theorem dX7_earn_52 : decode cX7_earn 52 = .ok (.dup2, 1) := by decide +kernel
theorem dX7_earn_53 : decode cX7_earn 53 = .ok (.iaload, 1) := by decide +kernel
theorem dX7_earn_54 : decode cX7_earn 54 = .ok (.iload_n 2, 1) := by decide +kernel
theorem dX7_earn_55 : decode cX7_earn 55 = .ok (.iadd, 1) := by decide +kernel
theorem dX7_earn_56 : decode cX7_earn 56 = .ok (.iastore, 1) := by decide +kernel
theorem dX7_earn_57 : decode cX7_earn 57 = .ok (.aload_n 0, 1) := by decide +kernel
theorem dX7_earn_58 : decode cX7_earn 58 = .ok (.aload_n 0, 1) := by decide +kernel
theorem dX7_earn_59 : decode cX7_earn 59 = .ok (.getfield 7, 3) := by decide +kernel
theorem dX7_earn_62 : decode cX7_earn 62 = .ok (.bipush 48, 2) := by decide +kernel
theorem dX7_earn_64 : decode cX7_earn 64 = .ok (.iload_n 1, 1) := by decide +kernel
theorem dX7_earn_65 : decode cX7_earn 65 = .ok (.iadd, 1) := by decide +kernel
theorem dX7_earn_66 : decode cX7_earn 66 = .ok (.iaload, 1) := by decide +kernel
theorem dX7_earn_67 : decode cX7_earn 67 = .ok (.invokevirtual 127, 3) := by decide +kernel
theorem dX7_earn_70 : decode cX7_earn 70 = .ok (.ireturn, 1) := by decide +kernel
theorem dX7_pledge_0 : decode cX7_pledge 0 = .ok (.aload_n 0, 1) := by decide +kernel
theorem dX7_pledge_1 : decode cX7_pledge 1 = .ok (.invokevirtual 124, 3) := by decide +kernel
theorem dX7_pledge_4 : decode cX7_pledge 4 = .ok (.aload_n 0, 1) := by decide +kernel
theorem dX7_pledge_5 : decode cX7_pledge 5 = .ok (.aload_n 0, 1) := by decide +kernel
theorem dX7_pledge_6 : decode cX7_pledge 6 = .ok (.iload_n 1, 1) := by decide +kernel
theorem dX7_pledge_7 : decode cX7_pledge 7 = .ok (.iload_n 2, 1) := by decide +kernel
theorem dX7_pledge_8 : decode cX7_pledge 8 = .ok (.invokevirtual 153, 3) := by decide +kernel
theorem dX7_pledge_11 : decode cX7_pledge 11 = .ok (.invokevirtual 127, 3) := by decide +kernel
theorem dX7_pledge_14 : decode cX7_pledge 14 = .ok (.ireturn, 1) := by decide +kernel
theorem dX7_owed_0 : decode cX7_owed 0 = .ok (.aload_n 0, 1) := by decide +kernel
theorem dX7_owed_1 : decode cX7_owed 1 = .ok (.iload_n 1, 1) := by decide +kernel
theorem dX7_owed_2 : decode cX7_owed 2 = .ok (.invokevirtual 102, 3) := by decide +kernel
theorem dX7_owed_5 : decode cX7_owed 5 = .ok (.ifCond .ne 6, 3) := by decide +kernel
theorem dX7_owed_8 : decode cX7_owed 8 = .ok (.ldc 33, 2) := by decide +kernel
theorem dX7_owed_10 : decode cX7_owed 10 = .ok (.ireturn, 1) := by decide +kernel
theorem dX7_owed_11 : decode cX7_owed 11 = .ok (.aload_n 0, 1) := by decide +kernel
theorem dX7_owed_12 : decode cX7_owed 12 = .ok (.iload_n 1, 1) := by decide +kernel
theorem dX7_owed_13 : decode cX7_owed 13 = .ok (.bipush 6, 2) := by decide +kernel
theorem dX7_owed_15 : decode cX7_owed 15 = .ok (.invokevirtual 38, 3) := by decide +kernel
theorem dX7_owed_18 : decode cX7_owed 18 = .ok (.ifCond .ne 8, 3) := by decide +kernel
theorem dX7_owed_21 : decode cX7_owed 21 = .ok (.ldc 151, 2) := by decide +kernel
theorem dX7_owed_23 : decode cX7_owed 23 = .ok (.goto 8, 3) := by decide +kernel
theorem dX7_owed_26 : decode cX7_owed 26 = .ok (.aload_n 0, 1) := by decide +kernel
theorem dX7_owed_27 : decode cX7_owed 27 = .ok (.iload_n 1, 1) := by decide +kernel
theorem dX7_owed_28 : decode cX7_owed 28 = .ok (.invokevirtual 115, 3) := by decide +kernel
theorem dX7_owed_31 : decode cX7_owed 31 = .ok (.ireturn, 1) := by decide +kernel
theorem dX7_redeem_0 : decode cX7_redeem 0 = .ok (.aload_n 0, 1) := by decide +kernel
theorem dX7_redeem_1 : decode cX7_redeem 1 = .ok (.invokevirtual 124, 3) := by decide +kernel
theorem dX7_redeem_4 : decode cX7_redeem 4 = .ok (.aload_n 0, 1) := by decide +kernel
theorem dX7_redeem_5 : decode cX7_redeem 5 = .ok (.aload_n 0, 1) := by decide +kernel
theorem dX7_redeem_6 : decode cX7_redeem 6 = .ok (.iload_n 1, 1) := by decide +kernel
theorem dX7_redeem_7 : decode cX7_redeem 7 = .ok (.invokevirtual 156, 3) := by decide +kernel
theorem dX7_redeem_10 : decode cX7_redeem 10 = .ok (.invokevirtual 127, 3) := by decide +kernel
theorem dX7_redeem_13 : decode cX7_redeem 13 = .ok (.ireturn, 1) := by decide +kernel
theorem dX7_ahead_0 : decode cX7_ahead 0 = .ok (.iconst 0, 1) := by decide +kernel
theorem dX7_ahead_1 : decode cX7_ahead 1 = .ok (.istore_n 2, 1) := by decide +kernel
theorem dX7_ahead_2 : decode cX7_ahead 2 = .ok (.iconst 0, 1) := by decide +kernel
theorem dX7_ahead_3 : decode cX7_ahead 3 = .ok (.istore_n 3, 1) := by decide +kernel
theorem dX7_ahead_4 : decode cX7_ahead 4 = .ok (.iload_n 3, 1) := by decide +kernel
theorem dX7_ahead_5 : decode cX7_ahead 5 = .ok (.aload_n 0, 1) := by decide +kernel
theorem dX7_ahead_6 : decode cX7_ahead 6 = .ok (.getfield 7, 3) := by decide +kernel
theorem dX7_ahead_9 : decode cX7_ahead 9 = .ok (.bipush 29, 2) := by decide +kernel
theorem dX7_ahead_11 : decode cX7_ahead 11 = .ok (.iaload, 1) := by decide +kernel
theorem dX7_ahead_12 : decode cX7_ahead 12 = .ok (.if_icmp .ge 78, 3) := by decide +kernel
theorem dX7_ahead_15 : decode cX7_ahead 15 = .ok (.aload_n 0, 1) := by decide +kernel
theorem dX7_ahead_16 : decode cX7_ahead 16 = .ok (.iload_n 3, 1) := by decide +kernel
theorem dX7_ahead_17 : decode cX7_ahead 17 = .ok (.bipush 9, 2) := by decide +kernel
theorem dX7_ahead_19 : decode cX7_ahead 19 = .ok (.invokevirtual 38, 3) := by decide +kernel
theorem dX7_ahead_22 : decode cX7_ahead 22 = .ok (.aload_n 0, 1) := by decide +kernel
theorem dX7_ahead_23 : decode cX7_ahead 23 = .ok (.iload_n 1, 1) := by decide +kernel
theorem dX7_ahead_24 : decode cX7_ahead 24 = .ok (.bipush 9, 2) := by decide +kernel
theorem dX7_ahead_26 : decode cX7_ahead 26 = .ok (.invokevirtual 38, 3) := by decide +kernel
theorem dX7_ahead_29 : decode cX7_ahead 29 = .ok (.if_icmp .lt 25, 3) := by decide +kernel
theorem dX7_ahead_32 : decode cX7_ahead 32 = .ok (.aload_n 0, 1) := by decide +kernel
theorem dX7_ahead_33 : decode cX7_ahead 33 = .ok (.iload_n 3, 1) := by decide +kernel
theorem dX7_ahead_34 : decode cX7_ahead 34 = .ok (.bipush 9, 2) := by decide +kernel
theorem dX7_ahead_36 : decode cX7_ahead 36 = .ok (.invokevirtual 38, 3) := by decide +kernel
theorem dX7_ahead_39 : decode cX7_ahead 39 = .ok (.aload_n 0, 1) := by decide +kernel
theorem dX7_ahead_40 : decode cX7_ahead 40 = .ok (.iload_n 1, 1) := by decide +kernel
theorem dX7_ahead_41 : decode cX7_ahead 41 = .ok (.bipush 9, 2) := by decide +kernel
theorem dX7_ahead_43 : decode cX7_ahead 43 = .ok (.invokevirtual 38, 3) := by decide +kernel
theorem dX7_ahead_46 : decode cX7_ahead 46 = .ok (.if_icmp .ne 12, 3) := by decide +kernel
theorem dX7_ahead_49 : decode cX7_ahead 49 = .ok (.iload_n 3, 1) := by decide +kernel
theorem dX7_ahead_50 : decode cX7_ahead 50 = .ok (.iload_n 1, 1) := by decide +kernel
theorem dX7_ahead_51 : decode cX7_ahead 51 = .ok (.if_icmp .ge 7, 3) := by decide +kernel
theorem dX7_ahead_54 : decode cX7_ahead 54 = .ok (.iconst 1, 1) := by decide +kernel
theorem dX7_ahead_55 : decode cX7_ahead 55 = .ok (.goto 4, 3) := by decide +kernel
theorem dX7_ahead_58 : decode cX7_ahead 58 = .ok (.iconst 0, 1) := by decide +kernel
theorem dX7_ahead_59 : decode cX7_ahead 59 = .ok (.istore 4, 2) := by decide +kernel
theorem dX7_ahead_61 : decode cX7_ahead 61 = .ok (.iload_n 2, 1) := by decide +kernel
theorem dX7_ahead_62 : decode cX7_ahead 62 = .ok (.aload_n 0, 1) := by decide +kernel
theorem dX7_ahead_63 : decode cX7_ahead 63 = .ok (.iload_n 3, 1) := by decide +kernel
theorem dX7_ahead_64 : decode cX7_ahead 64 = .ok (.bipush 6, 2) := by decide +kernel
theorem dX7_ahead_66 : decode cX7_ahead 66 = .ok (.invokevirtual 38, 3) := by decide +kernel
theorem dX7_ahead_69 : decode cX7_ahead 69 = .ok (.ifCond .le 12, 3) := by decide +kernel
theorem dX7_ahead_72 : decode cX7_ahead 72 = .ok (.iload 4, 2) := by decide +kernel
theorem dX7_ahead_74 : decode cX7_ahead 74 = .ok (.ifCond .eq 7, 3) := by decide +kernel
theorem dX7_ahead_77 : decode cX7_ahead 77 = .ok (.iconst 1, 1) := by decide +kernel
theorem dX7_ahead_78 : decode cX7_ahead 78 = .ok (.goto 4, 3) := by decide +kernel
theorem dX7_ahead_81 : decode cX7_ahead 81 = .ok (.iconst 0, 1) := by decide +kernel
theorem dX7_ahead_82 : decode cX7_ahead 82 = .ok (.iadd, 1) := by decide +kernel
theorem dX7_ahead_83 : decode cX7_ahead 83 = .ok (.istore_n 2, 1) := by decide +kernel
theorem dX7_ahead_84 : decode cX7_ahead 84 = .ok (.iinc 3 1, 3) := by decide +kernel
theorem dX7_ahead_87 : decode cX7_ahead 87 = .ok (.goto (-83), 3) := by decide +kernel
theorem dX7_ahead_90 : decode cX7_ahead 90 = .ok (.iload_n 2, 1) := by decide +kernel
theorem dX7_ahead_91 : decode cX7_ahead 91 = .ok (.ireturn, 1) := by decide +kernel
theorem dX7_pledgeAt_0 : decode cX7_pledgeAt 0 = .ok (.iload_n 1, 1) := by decide +kernel
theorem dX7_pledgeAt_1 : decode cX7_pledgeAt 1 = .ok (.ifCond .lt 12, 3) := by decide +kernel
theorem dX7_pledgeAt_4 : decode cX7_pledgeAt 4 = .ok (.iload_n 2, 1) := by decide +kernel
theorem dX7_pledgeAt_5 : decode cX7_pledgeAt 5 = .ok (.iconst 0, 1) := by decide +kernel
theorem dX7_pledgeAt_6 : decode cX7_pledgeAt 6 = .ok (.iconst 4, 1) := by decide +kernel
theorem dX7_pledgeAt_7 : decode cX7_pledgeAt 7 = .ok (.invokestatic 29, 3) := by decide +kernel
theorem dX7_pledgeAt_10 : decode cX7_pledgeAt 10 = .ok (.ifCond .ne 6, 3) := by decide +kernel
theorem dX7_pledgeAt_13 : decode cX7_pledgeAt 13 = .ok (.ldc 33, 2) := by decide +kernel
theorem dX7_pledgeAt_15 : decode cX7_pledgeAt 15 = .ok (.ireturn, 1) := by decide +kernel
theorem dX7_pledgeAt_16 : decode cX7_pledgeAt 16 = .ok (.iconst 0, 1) := by decide +kernel
theorem dX7_pledgeAt_17 : decode cX7_pledgeAt 17 = .ok (.istore_n 3, 1) := by decide +kernel
theorem dX7_pledgeAt_18 : decode cX7_pledgeAt 18 = .ok (.iload_n 3, 1) := by decide +kernel
theorem dX7_pledgeAt_19 : decode cX7_pledgeAt 19 = .ok (.aload_n 0, 1) := by decide +kernel
theorem dX7_pledgeAt_20 : decode cX7_pledgeAt 20 = .ok (.getfield 7, 3) := by decide +kernel
theorem dX7_pledgeAt_23 : decode cX7_pledgeAt 23 = .ok (.bipush 29, 2) := by decide +kernel
theorem dX7_pledgeAt_25 : decode cX7_pledgeAt 25 = .ok (.iaload, 1) := by decide +kernel
theorem dX7_pledgeAt_26 : decode cX7_pledgeAt 26 = .ok (.if_icmp .ge 48, 3) := by decide +kernel
theorem dX7_pledgeAt_29 : decode cX7_pledgeAt 29 = .ok (.aload_n 0, 1) := by decide +kernel
theorem dX7_pledgeAt_30 : decode cX7_pledgeAt 30 = .ok (.iload_n 3, 1) := by decide +kernel
theorem dX7_pledgeAt_31 : decode cX7_pledgeAt 31 = .ok (.bipush 6, 2) := by decide +kernel
theorem dX7_pledgeAt_33 : decode cX7_pledgeAt 33 = .ok (.invokevirtual 38, 3) := by decide +kernel
theorem dX7_pledgeAt_36 : decode cX7_pledgeAt 36 = .ok (.ifCond .le 32, 3) := by decide +kernel
theorem dX7_pledgeAt_39 : decode cX7_pledgeAt 39 = .ok (.aload_n 0, 1) := by decide +kernel
theorem dX7_pledgeAt_40 : decode cX7_pledgeAt 40 = .ok (.iload_n 3, 1) := by decide +kernel
theorem dX7_pledgeAt_41 : decode cX7_pledgeAt 41 = .ok (.invokevirtual 159, 3) := by decide +kernel
theorem dX7_pledgeAt_44 : decode cX7_pledgeAt 44 = .ok (.iload_n 1, 1) := by decide +kernel
theorem dX7_pledgeAt_45 : decode cX7_pledgeAt 45 = .ok (.if_icmp .ne 23, 3) := by decide +kernel
theorem dX7_pledgeAt_48 : decode cX7_pledgeAt 48 = .ok (.iload_n 2, 1) := by decide +kernel
theorem dX7_pledgeAt_49 : decode cX7_pledgeAt 49 = .ok (.ifCond .ne 7, 3) := by decide +kernel
theorem dX7_pledgeAt_52 : decode cX7_pledgeAt 52 = .ok (.iload_n 3, 1) := by decide +kernel
theorem dX7_pledgeAt_53 : decode cX7_pledgeAt 53 = .ok (.goto 14, 3) := by decide +kernel
theorem dX7_pledgeAt_56 : decode cX7_pledgeAt 56 = .ok (.aload_n 0, 1) := by decide +kernel
theorem dX7_pledgeAt_57 : decode cX7_pledgeAt 57 = .ok (.iload_n 3, 1) := by decide +kernel
theorem dX7_pledgeAt_58 : decode cX7_pledgeAt 58 = .ok (.bipush 6, 2) := by decide +kernel
theorem dX7_pledgeAt_60 : decode cX7_pledgeAt 60 = .ok (.iload_n 2, 1) := by decide +kernel
theorem dX7_pledgeAt_61 : decode cX7_pledgeAt 61 = .ok (.iadd, 1) := by decide +kernel
theorem dX7_pledgeAt_62 : decode cX7_pledgeAt 62 = .ok (.iconst 1, 1) := by decide +kernel
theorem dX7_pledgeAt_63 : decode cX7_pledgeAt 63 = .ok (.isub, 1) := by decide +kernel
theorem dX7_pledgeAt_64 : decode cX7_pledgeAt 64 = .ok (.invokevirtual 38, 3) := by decide +kernel
theorem dX7_pledgeAt_67 : decode cX7_pledgeAt 67 = .ok (.ireturn, 1) := by decide +kernel
theorem dX7_pledgeAt_68 : decode cX7_pledgeAt 68 = .ok (.iinc 3 1, 3) := by decide +kernel
theorem dX7_pledgeAt_71 : decode cX7_pledgeAt 71 = .ok (.goto (-53), 3) := by decide +kernel
theorem dX7_pledgeAt_74 : decode cX7_pledgeAt 74 = .ok (.ldc 151, 2) := by decide +kernel
theorem dX7_pledgeAt_76 : decode cX7_pledgeAt 76 = .ok (.ireturn, 1) := by decide +kernel
theorem dX7_pass_0 : decode cX7_pass 0 = .ok (.iload_n 1, 1) := by decide +kernel
theorem dX7_pass_1 : decode cX7_pass 1 = .ok (.iconst 1, 1) := by decide +kernel
theorem dX7_pass_2 : decode cX7_pass 2 = .ok (.sipush 200, 3) := by decide +kernel
theorem dX7_pass_5 : decode cX7_pass 5 = .ok (.invokestatic 29, 3) := by decide +kernel
theorem dX7_pass_8 : decode cX7_pass 8 = .ok (.ifCond .ne 6, 3) := by decide +kernel
theorem dX7_pass_11 : decode cX7_pass 11 = .ok (.ldc 33, 2) := by decide +kernel
theorem dX7_pass_13 : decode cX7_pass 13 = .ok (.ireturn, 1) := by decide +kernel
theorem dX7_pass_14 : decode cX7_pass 14 = .ok (.aload_n 0, 1) := by decide +kernel
theorem dX7_pass_15 : decode cX7_pass 15 = .ok (.getfield 7, 3) := by decide +kernel
theorem dX7_pass_18 : decode cX7_pass 18 = .ok (.bipush 26, 2) := by decide +kernel
theorem dX7_pass_20 : decode cX7_pass 20 = .ok (.iaload, 1) := by decide +kernel
theorem dX7_pass_21 : decode cX7_pass 21 = .ok (.iload_n 1, 1) := by decide +kernel
theorem dX7_pass_22 : decode cX7_pass 22 = .ok (.iadd, 1) := by decide +kernel
theorem dX7_pass_23 : decode cX7_pass 23 = .ok (.sipush 10000, 3) := by decide +kernel
theorem dX7_pass_26 : decode cX7_pass 26 = .ok (.if_icmp .le 6, 3) := by decide +kernel
theorem dX7_pass_29 : decode cX7_pass 29 = .ok (.ldc 101, 2) := by decide +kernel
theorem dX7_pass_31 : decode cX7_pass 31 = .ok (.ireturn, 1) := by decide +kernel
theorem dX7_pass_32 : decode cX7_pass 32 = .ok (.aload_n 0, 1) := by decide +kernel
theorem dX7_pass_33 : decode cX7_pass 33 = .ok (.invokevirtual 124, 3) := by decide +kernel
theorem dX7_pass_36 : decode cX7_pass 36 = .ok (.iconst 0, 1) := by decide +kernel
theorem dX7_pass_37 : decode cX7_pass 37 = .ok (.istore_n 2, 1) := by decide +kernel
theorem dX7_pass_38 : decode cX7_pass 38 = .ok (.iload_n 2, 1) := by decide +kernel
theorem dX7_pass_39 : decode cX7_pass 39 = .ok (.iload_n 1, 1) := by decide +kernel
theorem dX7_pass_40 : decode cX7_pass 40 = .ok (.if_icmp .ge 13, 3) := by decide +kernel
theorem dX7_pass_43 : decode cX7_pass 43 = .ok (.aload_n 0, 1) := by decide +kernel
theorem dX7_pass_44 : decode cX7_pass 44 = .ok (.invokevirtual 162, 3) := by decide +kernel
theorem dX7_pass_47 : decode cX7_pass 47 = .ok (.iinc 2 1, 3) := by decide +kernel
theorem dX7_pass_50 : decode cX7_pass 50 = .ok (.goto (-12), 3) := by decide +kernel
theorem dX7_pass_53 : decode cX7_pass 53 = .ok (.aload_n 0, 1) := by decide +kernel
theorem dX7_pass_54 : decode cX7_pass 54 = .ok (.aload_n 0, 1) := by decide +kernel
theorem dX7_pass_55 : decode cX7_pass 55 = .ok (.getfield 7, 3) := by decide +kernel
theorem dX7_pass_58 : decode cX7_pass 58 = .ok (.bipush 26, 2) := by decide +kernel
theorem dX7_pass_60 : decode cX7_pass 60 = .ok (.iaload, 1) := by decide +kernel
theorem dX7_pass_61 : decode cX7_pass 61 = .ok (.invokevirtual 127, 3) := by decide +kernel
theorem dX7_pass_64 : decode cX7_pass 64 = .ok (.ireturn, 1) := by decide +kernel
theorem dX7_seaIn_0 : decode cX7_seaIn 0 = .ok (.iload_n 1, 1) := by decide +kernel
theorem dX7_seaIn_1 : decode cX7_seaIn 1 = .ok (.iconst 0, 1) := by decide +kernel
theorem dX7_seaIn_2 : decode cX7_seaIn 2 = .ok (.sipush 5000, 3) := by decide +kernel
theorem dX7_seaIn_5 : decode cX7_seaIn 5 = .ok (.invokestatic 29, 3) := by decide +kernel
theorem dX7_seaIn_8 : decode cX7_seaIn 8 = .ok (.ifCond .eq 19, 3) := by decide +kernel
theorem dX7_seaIn_11 : decode cX7_seaIn 11 = .ok (.aload_n 0, 1) := by decide +kernel
theorem dX7_seaIn_12 : decode cX7_seaIn 12 = .ok (.aload_n 0, 1) := by decide +kernel
theorem dX7_seaIn_13 : decode cX7_seaIn 13 = .ok (.getfield 7, 3) := by decide +kernel
theorem dX7_seaIn_16 : decode cX7_seaIn 16 = .ok (.bipush 26, 2) := by decide +kernel
theorem dX7_seaIn_18 : decode cX7_seaIn 18 = .ok (.iaload, 1) := by decide +kernel
theorem dX7_seaIn_19 : decode cX7_seaIn 19 = .ok (.iload_n 1, 1) := by decide +kernel
theorem dX7_seaIn_20 : decode cX7_seaIn 20 = .ok (.iadd, 1) := by decide +kernel
theorem dX7_seaIn_21 : decode cX7_seaIn 21 = .ok (.invokevirtual 61, 3) := by decide +kernel
theorem dX7_seaIn_24 : decode cX7_seaIn 24 = .ok (.goto 5, 3) := by decide +kernel
theorem dX7_seaIn_27 : decode cX7_seaIn 27 = .ok (.ldc 33, 2) := by decide +kernel
theorem dX7_seaIn_29 : decode cX7_seaIn 29 = .ok (.ireturn, 1) := by decide +kernel
theorem dX7_nextHigh_0 : decode cX7_nextHigh 0 = .ok (.iconst 1, 1) := by decide +kernel
theorem dX7_nextHigh_1 : decode cX7_nextHigh 1 = .ok (.istore_n 1, 1) := by decide +kernel
theorem dX7_nextHigh_2 : decode cX7_nextHigh 2 = .ok (.aload_n 0, 1) := by decide +kernel
theorem dX7_nextHigh_3 : decode cX7_nextHigh 3 = .ok (.getfield 7, 3) := by decide +kernel
theorem dX7_nextHigh_6 : decode cX7_nextHigh 6 = .ok (.bipush 26, 2) := by decide +kernel
theorem dX7_nextHigh_8 : decode cX7_nextHigh 8 = .ok (.iaload, 1) := by decide +kernel
theorem dX7_nextHigh_9 : decode cX7_nextHigh 9 = .ok (.iload_n 1, 1) := by decide +kernel
theorem dX7_nextHigh_10 : decode cX7_nextHigh 10 = .ok (.iadd, 1) := by decide +kernel
theorem dX7_nextHigh_11 : decode cX7_nextHigh 11 = .ok (.aload_n 0, 1) := by decide +kernel
theorem dX7_nextHigh_12 : decode cX7_nextHigh 12 = .ok (.getfield 7, 3) := by decide +kernel
theorem dX7_nextHigh_15 : decode cX7_nextHigh 15 = .ok (.iconst 4, 1) := by decide +kernel
theorem dX7_nextHigh_16 : decode cX7_nextHigh 16 = .ok (.iaload, 1) := by decide +kernel
theorem dX7_nextHigh_17 : decode cX7_nextHigh 17 = .ok (.irem, 1) := by decide +kernel
theorem dX7_nextHigh_18 : decode cX7_nextHigh 18 = .ok (.aload_n 0, 1) := by decide +kernel
theorem dX7_nextHigh_19 : decode cX7_nextHigh 19 = .ok (.getfield 7, 3) := by decide +kernel
theorem dX7_nextHigh_22 : decode cX7_nextHigh 22 = .ok (.iconst 4, 1) := by decide +kernel
theorem dX7_nextHigh_23 : decode cX7_nextHigh 23 = .ok (.iaload, 1) := by decide +kernel
theorem dX7_nextHigh_24 : decode cX7_nextHigh 24 = .ok (.iconst 2, 1) := by decide +kernel
theorem dX7_nextHigh_25 : decode cX7_nextHigh 25 = .ok (.idiv, 1) := by decide +kernel
theorem dX7_nextHigh_26 : decode cX7_nextHigh 26 = .ok (.if_icmp .eq 9, 3) := by decide +kernel
theorem dX7_nextHigh_29 : decode cX7_nextHigh 29 = .ok (.iinc 1 1, 3) := by decide +kernel
theorem dX7_nextHigh_32 : decode cX7_nextHigh 32 = .ok (.goto (-30), 3) := by decide +kernel
theorem dX7_nextHigh_35 : decode cX7_nextHigh 35 = .ok (.iload_n 1, 1) := by decide +kernel
theorem dX7_nextHigh_36 : decode cX7_nextHigh 36 = .ok (.ireturn, 1) := by decide +kernel
theorem dX7_pond_0 : decode cX7_pond 0 = .ok (.iload_n 1, 1) := by decide +kernel
theorem dX7_pond_1 : decode cX7_pond 1 = .ok (.tableswitch 152 0 10 #[59, 67, 82, 94, 99, 107, 115, 139, 139, 139, 139], 59) := by decide +kernel
theorem dX7_pond_60 : decode cX7_pond 60 = .ok (.aload_n 0, 1) := by decide +kernel
theorem dX7_pond_61 : decode cX7_pond 61 = .ok (.getfield 7, 3) := by decide +kernel
theorem dX7_pond_64 : decode cX7_pond 64 = .ok (.bipush 19, 2) := by decide +kernel
theorem dX7_pond_66 : decode cX7_pond 66 = .ok (.iaload, 1) := by decide +kernel
theorem dX7_pond_67 : decode cX7_pond 67 = .ok (.ireturn, 1) := by decide +kernel
theorem dX7_pond_68 : decode cX7_pond 68 = .ok (.aload_n 0, 1) := by decide +kernel
theorem dX7_pond_69 : decode cX7_pond 69 = .ok (.getfield 7, 3) := by decide +kernel
theorem dX7_pond_72 : decode cX7_pond 72 = .ok (.bipush 19, 2) := by decide +kernel
theorem dX7_pond_74 : decode cX7_pond 74 = .ok (.iaload, 1) := by decide +kernel
theorem dX7_pond_75 : decode cX7_pond 75 = .ok (.aload_n 0, 1) := by decide +kernel
theorem dX7_pond_76 : decode cX7_pond 76 = .ok (.getfield 7, 3) := by decide +kernel
theorem dX7_pond_79 : decode cX7_pond 79 = .ok (.iconst 0, 1) := by decide +kernel
theorem dX7_pond_80 : decode cX7_pond 80 = .ok (.iaload, 1) := by decide +kernel
theorem dX7_pond_81 : decode cX7_pond 81 = .ok (.idiv, 1) := by decide +kernel
theorem dX7_pond_82 : decode cX7_pond 82 = .ok (.ireturn, 1) := by decide +kernel
theorem dX7_pond_83 : decode cX7_pond 83 = .ok (.aload_n 0, 1) := by decide +kernel
theorem dX7_pond_84 : decode cX7_pond 84 = .ok (.aload_n 0, 1) := by decide +kernel
theorem dX7_pond_85 : decode cX7_pond 85 = .ok (.getfield 7, 3) := by decide +kernel
theorem dX7_pond_88 : decode cX7_pond 88 = .ok (.bipush 26, 2) := by decide +kernel
theorem dX7_pond_90 : decode cX7_pond 90 = .ok (.iaload, 1) := by decide +kernel
theorem dX7_pond_91 : decode cX7_pond 91 = .ok (.invokevirtual 61, 3) := by decide +kernel
theorem dX7_pond_94 : decode cX7_pond 94 = .ok (.ireturn, 1) := by decide +kernel
theorem dX7_pond_95 : decode cX7_pond 95 = .ok (.aload_n 0, 1) := by decide +kernel
theorem dX7_pond_96 : decode cX7_pond 96 = .ok (.invokevirtual 68, 3) := by decide +kernel
theorem dX7_pond_99 : decode cX7_pond 99 = .ok (.ireturn, 1) := by decide +kernel
theorem dX7_pond_100 : decode cX7_pond 100 = .ok (.aload_n 0, 1) := by decide +kernel
theorem dX7_pond_101 : decode cX7_pond 101 = .ok (.getfield 7, 3) := by decide +kernel
theorem dX7_pond_104 : decode cX7_pond 104 = .ok (.bipush 18, 2) := by decide +kernel
theorem dX7_pond_106 : decode cX7_pond 106 = .ok (.iaload, 1) := by decide +kernel
theorem dX7_pond_107 : decode cX7_pond 107 = .ok (.ireturn, 1) := by decide +kernel
theorem dX7_pond_108 : decode cX7_pond 108 = .ok (.aload_n 0, 1) := by decide +kernel
theorem dX7_pond_109 : decode cX7_pond 109 = .ok (.getfield 7, 3) := by decide +kernel
theorem dX7_pond_112 : decode cX7_pond 112 = .ok (.bipush 17, 2) := by decide +kernel
theorem dX7_pond_114 : decode cX7_pond 114 = .ok (.iaload, 1) := by decide +kernel
theorem dX7_pond_115 : decode cX7_pond 115 = .ok (.ireturn, 1) := by decide +kernel
theorem dX7_pond_116 : decode cX7_pond 116 = .ok (.aload_n 0, 1) := by decide +kernel
theorem dX7_pond_117 : decode cX7_pond 117 = .ok (.getfield 7, 3) := by decide +kernel
theorem dX7_pond_120 : decode cX7_pond 120 = .ok (.bipush 24, 2) := by decide +kernel
theorem dX7_pond_122 : decode cX7_pond 122 = .ok (.iaload, 1) := by decide +kernel
theorem dX7_pond_123 : decode cX7_pond 123 = .ok (.iconst (-1), 1) := by decide +kernel
theorem dX7_pond_124 : decode cX7_pond 124 = .ok (.if_icmp .ne 8, 3) := by decide +kernel
theorem dX7_pond_127 : decode cX7_pond 127 = .ok (.ldc 151, 2) := by decide +kernel
theorem dX7_pond_129 : decode cX7_pond 129 = .ok (.goto 10, 3) := by decide +kernel
theorem dX7_pond_132 : decode cX7_pond 132 = .ok (.aload_n 0, 1) := by decide +kernel
theorem dX7_pond_133 : decode cX7_pond 133 = .ok (.getfield 7, 3) := by decide +kernel
theorem dX7_pond_136 : decode cX7_pond 136 = .ok (.bipush 24, 2) := by decide +kernel
theorem dX7_pond_138 : decode cX7_pond 138 = .ok (.iaload, 1) := by decide +kernel
theorem dX7_pond_139 : decode cX7_pond 139 = .ok (.ireturn, 1) := by decide +kernel
theorem dX7_pond_140 : decode cX7_pond 140 = .ok (.aload_n 0, 1) := by decide +kernel
theorem dX7_pond_141 : decode cX7_pond 141 = .ok (.getfield 7, 3) := by decide +kernel
theorem dX7_pond_144 : decode cX7_pond 144 = .ok (.bipush 20, 2) := by decide +kernel
theorem dX7_pond_146 : decode cX7_pond 146 = .ok (.iload_n 1, 1) := by decide +kernel
theorem dX7_pond_147 : decode cX7_pond 147 = .ok (.iadd, 1) := by decide +kernel
theorem dX7_pond_148 : decode cX7_pond 148 = .ok (.bipush 7, 2) := by decide +kernel
theorem dX7_pond_150 : decode cX7_pond 150 = .ok (.isub, 1) := by decide +kernel
theorem dX7_pond_151 : decode cX7_pond 151 = .ok (.iaload, 1) := by decide +kernel
theorem dX7_pond_152 : decode cX7_pond 152 = .ok (.ireturn, 1) := by decide +kernel
theorem dX7_pond_153 : decode cX7_pond 153 = .ok (.iload_n 1, 1) := by decide +kernel
theorem dX7_pond_154 : decode cX7_pond 154 = .ok (.bipush 11, 2) := by decide +kernel
theorem dX7_pond_156 : decode cX7_pond 156 = .ok (.bipush 14, 2) := by decide +kernel
theorem dX7_pond_158 : decode cX7_pond 158 = .ok (.invokestatic 29, 3) := by decide +kernel
theorem dX7_pond_161 : decode cX7_pond 161 = .ok (.ifCond .eq 18, 3) := by decide +kernel
theorem dX7_pond_164 : decode cX7_pond 164 = .ok (.aload_n 0, 1) := by decide +kernel
theorem dX7_pond_165 : decode cX7_pond 165 = .ok (.getfield 7, 3) := by decide +kernel
theorem dX7_pond_168 : decode cX7_pond 168 = .ok (.bipush 13, 2) := by decide +kernel
theorem dX7_pond_170 : decode cX7_pond 170 = .ok (.iload_n 1, 1) := by decide +kernel
theorem dX7_pond_171 : decode cX7_pond 171 = .ok (.iadd, 1) := by decide +kernel
theorem dX7_pond_172 : decode cX7_pond 172 = .ok (.bipush 11, 2) := by decide +kernel
theorem dX7_pond_174 : decode cX7_pond 174 = .ok (.isub, 1) := by decide +kernel
theorem dX7_pond_175 : decode cX7_pond 175 = .ok (.iaload, 1) := by decide +kernel
theorem dX7_pond_176 : decode cX7_pond 176 = .ok (.goto 5, 3) := by decide +kernel
theorem dX7_pond_179 : decode cX7_pond 179 = .ok (.ldc 33, 2) := by decide +kernel
theorem dX7_pond_181 : decode cX7_pond 181 = .ok (.ireturn, 1) := by decide +kernel
theorem dX7_foresee_0 : decode cX7_foresee 0 = .ok (.aload_n 0, 1) := by decide +kernel
theorem dX7_foresee_1 : decode cX7_foresee 1 = .ok (.iload_n 1, 1) := by decide +kernel
theorem dX7_foresee_2 : decode cX7_foresee 2 = .ok (.invokevirtual 102, 3) := by decide +kernel
theorem dX7_foresee_5 : decode cX7_foresee 5 = .ok (.ifCond .ne 6, 3) := by decide +kernel
theorem dX7_foresee_8 : decode cX7_foresee 8 = .ok (.ldc 33, 2) := by decide +kernel
theorem dX7_foresee_10 : decode cX7_foresee 10 = .ok (.ireturn, 1) := by decide +kernel
theorem dX7_foresee_11 : decode cX7_foresee 11 = .ok (.aload_n 0, 1) := by decide +kernel
theorem dX7_foresee_12 : decode cX7_foresee 12 = .ok (.iload_n 1, 1) := by decide +kernel
theorem dX7_foresee_13 : decode cX7_foresee 13 = .ok (.iconst 3, 1) := by decide +kernel
theorem dX7_foresee_14 : decode cX7_foresee 14 = .ok (.invokevirtual 38, 3) := by decide +kernel
theorem dX7_foresee_17 : decode cX7_foresee 17 = .ok (.iconst 1, 1) := by decide +kernel
theorem dX7_foresee_18 : decode cX7_foresee 18 = .ok (.if_icmp .le 6, 3) := by decide +kernel
theorem dX7_foresee_21 : decode cX7_foresee 21 = .ok (.ldc 105, 2) := by decide +kernel
theorem dX7_foresee_23 : decode cX7_foresee 23 = .ok (.ireturn, 1) := by decide +kernel
theorem dX7_foresee_24 : decode cX7_foresee 24 = .ok (.aload_n 0, 1) := by decide +kernel
theorem dX7_foresee_25 : decode cX7_foresee 25 = .ok (.invokevirtual 165, 3) := by decide +kernel
theorem dX7_foresee_28 : decode cX7_foresee 28 = .ok (.iconst 0, 1) := by decide +kernel
theorem dX7_foresee_29 : decode cX7_foresee 29 = .ok (.istore_n 2, 1) := by decide +kernel
theorem dX7_foresee_30 : decode cX7_foresee 30 = .ok (.iload_n 2, 1) := by decide +kernel
theorem dX7_foresee_31 : decode cX7_foresee 31 = .ok (.sipush 1000, 3) := by decide +kernel
theorem dX7_foresee_34 : decode cX7_foresee 34 = .ok (.if_icmp .ge 23, 3) := by decide +kernel
theorem dX7_foresee_37 : decode cX7_foresee 37 = .ok (.aload_n 0, 1) := by decide +kernel
theorem dX7_foresee_38 : decode cX7_foresee 38 = .ok (.iload_n 1, 1) := by decide +kernel
theorem dX7_foresee_39 : decode cX7_foresee 39 = .ok (.iconst 3, 1) := by decide +kernel
theorem dX7_foresee_40 : decode cX7_foresee 40 = .ok (.invokevirtual 38, 3) := by decide +kernel
theorem dX7_foresee_43 : decode cX7_foresee 43 = .ok (.iconst 2, 1) := by decide +kernel
theorem dX7_foresee_44 : decode cX7_foresee 44 = .ok (.if_icmp .ge 13, 3) := by decide +kernel
theorem dX7_foresee_47 : decode cX7_foresee 47 = .ok (.aload_n 0, 1) := by decide +kernel
theorem dX7_foresee_48 : decode cX7_foresee 48 = .ok (.invokevirtual 162, 3) := by decide +kernel
theorem dX7_foresee_51 : decode cX7_foresee 51 = .ok (.iinc 2 1, 3) := by decide +kernel
theorem dX7_foresee_54 : decode cX7_foresee 54 = .ok (.goto (-24), 3) := by decide +kernel
theorem dX7_foresee_57 : decode cX7_foresee 57 = .ok (.aload_n 0, 1) := by decide +kernel
theorem dX7_foresee_58 : decode cX7_foresee 58 = .ok (.iload_n 1, 1) := by decide +kernel
theorem dX7_foresee_59 : decode cX7_foresee 59 = .ok (.iconst 3, 1) := by decide +kernel
theorem dX7_foresee_60 : decode cX7_foresee 60 = .ok (.invokevirtual 38, 3) := by decide +kernel
theorem dX7_foresee_63 : decode cX7_foresee 63 = .ok (.iconst 2, 1) := by decide +kernel
theorem dX7_foresee_64 : decode cX7_foresee 64 = .ok (.if_icmp .ne 7, 3) := by decide +kernel
theorem dX7_foresee_67 : decode cX7_foresee 67 = .ok (.iload_n 2, 1) := by decide +kernel
theorem dX7_foresee_68 : decode cX7_foresee 68 = .ok (.goto 5, 3) := by decide +kernel
theorem dX7_foresee_71 : decode cX7_foresee 71 = .ok (.ldc 151, 2) := by decide +kernel
theorem dX7_foresee_73 : decode cX7_foresee 73 = .ok (.istore_n 3, 1) := by decide +kernel
theorem dX7_foresee_74 : decode cX7_foresee 74 = .ok (.aload_n 0, 1) := by decide +kernel
theorem dX7_foresee_75 : decode cX7_foresee 75 = .ok (.invokevirtual 168, 3) := by decide +kernel
theorem dX7_foresee_78 : decode cX7_foresee 78 = .ok (.iload_n 3, 1) := by decide +kernel
theorem dX7_foresee_79 : decode cX7_foresee 79 = .ok (.ireturn, 1) := by decide +kernel
theorem dX7_bestGate_0 : decode cX7_bestGate 0 = .ok (.iload_n 1, 1) := by decide +kernel
theorem dX7_bestGate_1 : decode cX7_bestGate 1 = .ok (.iconst 1, 1) := by decide +kernel
theorem dX7_bestGate_2 : decode cX7_bestGate 2 = .ok (.sipush 200, 3) := by decide +kernel
theorem dX7_bestGate_5 : decode cX7_bestGate 5 = .ok (.invokestatic 29, 3) := by decide +kernel
theorem dX7_bestGate_8 : decode cX7_bestGate 8 = .ok (.ifCond .ne 6, 3) := by decide +kernel
theorem dX7_bestGate_11 : decode cX7_bestGate 11 = .ok (.ldc 33, 2) := by decide +kernel
theorem dX7_bestGate_13 : decode cX7_bestGate 13 = .ok (.ireturn, 1) := by decide +kernel
theorem dX7_bestGate_14 : decode cX7_bestGate 14 = .ok (.aload_n 0, 1) := by decide +kernel
theorem dX7_bestGate_15 : decode cX7_bestGate 15 = .ok (.invokevirtual 165, 3) := by decide +kernel
theorem dX7_bestGate_18 : decode cX7_bestGate 18 = .ok (.iconst 0, 1) := by decide +kernel
theorem dX7_bestGate_19 : decode cX7_bestGate 19 = .ok (.istore_n 2, 1) := by decide +kernel
theorem dX7_bestGate_20 : decode cX7_bestGate 20 = .ok (.iconst (-1), 1) := by decide +kernel
theorem dX7_bestGate_21 : decode cX7_bestGate 21 = .ok (.istore_n 3, 1) := by decide +kernel
theorem dX7_bestGate_22 : decode cX7_bestGate 22 = .ok (.iconst 0, 1) := by decide +kernel
theorem dX7_bestGate_23 : decode cX7_bestGate 23 = .ok (.istore 4, 2) := by decide +kernel
theorem dX7_bestGate_25 : decode cX7_bestGate 25 = .ok (.iload 4, 2) := by decide +kernel
theorem dX7_bestGate_27 : decode cX7_bestGate 27 = .ok (.iconst 4, 1) := by decide +kernel
theorem dX7_bestGate_28 : decode cX7_bestGate 28 = .ok (.if_icmp .ge 82, 3) := by decide +kernel
theorem dX7_bestGate_31 : decode cX7_bestGate 31 = .ok (.aload_n 0, 1) := by decide +kernel
theorem dX7_bestGate_32 : decode cX7_bestGate 32 = .ok (.invokevirtual 168, 3) := by decide +kernel
theorem dX7_bestGate_35 : decode cX7_bestGate 35 = .ok (.aload_n 0, 1) := by decide +kernel
theorem dX7_bestGate_36 : decode cX7_bestGate 36 = .ok (.getfield 7, 3) := by decide +kernel
theorem dX7_bestGate_39 : decode cX7_bestGate 39 = .ok (.bipush 18, 2) := by decide +kernel
theorem dX7_bestGate_41 : decode cX7_bestGate 41 = .ok (.iload 4, 2) := by decide +kernel
theorem dX7_bestGate_43 : decode cX7_bestGate 43 = .ok (.iastore, 1) := by decide +kernel
theorem dX7_bestGate_44 : decode cX7_bestGate 44 = .ok (.iconst 0, 1) := by decide +kernel
theorem dX7_bestGate_45 : decode cX7_bestGate 45 = .ok (.istore 5, 2) := by decide +kernel
theorem dX7_bestGate_47 : decode cX7_bestGate 47 = .ok (.iload 5, 2) := by decide +kernel
theorem dX7_bestGate_49 : decode cX7_bestGate 49 = .ok (.iload_n 1, 1) := by decide +kernel
theorem dX7_bestGate_50 : decode cX7_bestGate 50 = .ok (.if_icmp .ge 13, 3) := by decide +kernel
theorem dX7_bestGate_53 : decode cX7_bestGate 53 = .ok (.aload_n 0, 1) := by decide +kernel
theorem dX7_bestGate_54 : decode cX7_bestGate 54 = .ok (.invokevirtual 162, 3) := by decide +kernel
theorem dX7_bestGate_57 : decode cX7_bestGate 57 = .ok (.iinc 5 1, 3) := by decide +kernel
theorem dX7_bestGate_60 : decode cX7_bestGate 60 = .ok (.goto (-13), 3) := by decide +kernel
theorem dX7_bestGate_63 : decode cX7_bestGate 63 = .ok (.aload_n 0, 1) := by decide +kernel
theorem dX7_bestGate_64 : decode cX7_bestGate 64 = .ok (.getfield 7, 3) := by decide +kernel
theorem dX7_bestGate_67 : decode cX7_bestGate 67 = .ok (.bipush 23, 2) := by decide +kernel
theorem dX7_bestGate_69 : decode cX7_bestGate 69 = .ok (.iaload, 1) := by decide +kernel
theorem dX7_bestGate_70 : decode cX7_bestGate 70 = .ok (.iload_n 3, 1) := by decide +kernel
theorem dX7_bestGate_71 : decode cX7_bestGate 71 = .ok (.if_icmp .le 8, 3) := by decide +kernel
theorem dX7_bestGate_74 : decode cX7_bestGate 74 = .ok (.iload 4, 2) := by decide +kernel
theorem dX7_bestGate_76 : decode cX7_bestGate 76 = .ok (.goto 4, 3) := by decide +kernel
theorem dX7_bestGate_79 : decode cX7_bestGate 79 = .ok (.iload_n 2, 1) := by decide +kernel
theorem dX7_bestGate_80 : decode cX7_bestGate 80 = .ok (.istore_n 2, 1) := by decide +kernel
theorem dX7_bestGate_81 : decode cX7_bestGate 81 = .ok (.aload_n 0, 1) := by decide +kernel
theorem dX7_bestGate_82 : decode cX7_bestGate 82 = .ok (.getfield 7, 3) := by decide +kernel
theorem dX7_bestGate_85 : decode cX7_bestGate 85 = .ok (.bipush 23, 2) := by decide +kernel
theorem dX7_bestGate_87 : decode cX7_bestGate 87 = .ok (.iaload, 1) := by decide +kernel
theorem dX7_bestGate_88 : decode cX7_bestGate 88 = .ok (.iload_n 3, 1) := by decide +kernel
theorem dX7_bestGate_89 : decode cX7_bestGate 89 = .ok (.if_icmp .le 13, 3) := by decide +kernel
theorem dX7_bestGate_92 : decode cX7_bestGate 92 = .ok (.aload_n 0, 1) := by decide +kernel
theorem dX7_bestGate_93 : decode cX7_bestGate 93 = .ok (.getfield 7, 3) := by decide +kernel
theorem dX7_bestGate_96 : decode cX7_bestGate 96 = .ok (.bipush 23, 2) := by decide +kernel
theorem dX7_bestGate_98 : decode cX7_bestGate 98 = .ok (.iaload, 1) := by decide +kernel
theorem dX7_bestGate_99 : decode cX7_bestGate 99 = .ok (.goto 4, 3) := by decide +kernel
theorem dX7_bestGate_102 : decode cX7_bestGate 102 = .ok (.iload_n 3, 1) := by decide +kernel
theorem dX7_bestGate_103 : decode cX7_bestGate 103 = .ok (.istore_n 3, 1) := by decide +kernel
theorem dX7_bestGate_104 : decode cX7_bestGate 104 = .ok (.iinc 4 1, 3) := by decide +kernel
theorem dX7_bestGate_107 : decode cX7_bestGate 107 = .ok (.goto (-82), 3) := by decide +kernel
theorem dX7_bestGate_110 : decode cX7_bestGate 110 = .ok (.aload_n 0, 1) := by decide +kernel
theorem dX7_bestGate_111 : decode cX7_bestGate 111 = .ok (.invokevirtual 168, 3) := by decide +kernel
theorem dX7_bestGate_114 : decode cX7_bestGate 114 = .ok (.iload_n 2, 1) := by decide +kernel
theorem dX7_bestGate_115 : decode cX7_bestGate 115 = .ok (.ireturn, 1) := by decide +kernel
theorem dX7_count_0 : decode cX7_count 0 = .ok (.iload_n 1, 1) := by decide +kernel
theorem dX7_count_1 : decode cX7_count 1 = .ok (.tableswitch 120 0 10 #[59, 59, 59, 69, 75, 75, 83, 91, 99, 110, 115], 59) := by decide +kernel
theorem dX7_count_60 : decode cX7_count 60 = .ok (.aload_n 0, 1) := by decide +kernel
theorem dX7_count_61 : decode cX7_count 61 = .ok (.getfield 7, 3) := by decide +kernel
theorem dX7_count_64 : decode cX7_count 64 = .ok (.bipush 27, 2) := by decide +kernel
theorem dX7_count_66 : decode cX7_count 66 = .ok (.iload_n 1, 1) := by decide +kernel
theorem dX7_count_67 : decode cX7_count 67 = .ok (.iadd, 1) := by decide +kernel
theorem dX7_count_68 : decode cX7_count 68 = .ok (.iaload, 1) := by decide +kernel
theorem dX7_count_69 : decode cX7_count 69 = .ok (.ireturn, 1) := by decide +kernel
theorem dX7_count_70 : decode cX7_count 70 = .ok (.aload_n 0, 1) := by decide +kernel
theorem dX7_count_71 : decode cX7_count 71 = .ok (.iconst 0, 1) := by decide +kernel
theorem dX7_count_72 : decode cX7_count 72 = .ok (.invokevirtual 72, 3) := by decide +kernel
theorem dX7_count_75 : decode cX7_count 75 = .ok (.ireturn, 1) := by decide +kernel
theorem dX7_count_76 : decode cX7_count 76 = .ok (.aload_n 0, 1) := by decide +kernel
theorem dX7_count_77 : decode cX7_count 77 = .ok (.iload_n 1, 1) := by decide +kernel
theorem dX7_count_78 : decode cX7_count 78 = .ok (.iconst 2, 1) := by decide +kernel
theorem dX7_count_79 : decode cX7_count 79 = .ok (.isub, 1) := by decide +kernel
theorem dX7_count_80 : decode cX7_count 80 = .ok (.invokevirtual 72, 3) := by decide +kernel
theorem dX7_count_83 : decode cX7_count 83 = .ok (.ireturn, 1) := by decide +kernel
theorem dX7_count_84 : decode cX7_count 84 = .ok (.aload_n 0, 1) := by decide +kernel
theorem dX7_count_85 : decode cX7_count 85 = .ok (.iconst (-1), 1) := by decide +kernel
theorem dX7_count_86 : decode cX7_count 86 = .ok (.iconst (-1), 1) := by decide +kernel
theorem dX7_count_87 : decode cX7_count 87 = .ok (.iconst 1, 1) := by decide +kernel
theorem dX7_count_88 : decode cX7_count 88 = .ok (.invokevirtual 144, 3) := by decide +kernel
theorem dX7_count_91 : decode cX7_count 91 = .ok (.ireturn, 1) := by decide +kernel
theorem dX7_count_92 : decode cX7_count 92 = .ok (.aload_n 0, 1) := by decide +kernel
theorem dX7_count_93 : decode cX7_count 93 = .ok (.getfield 7, 3) := by decide +kernel
theorem dX7_count_96 : decode cX7_count 96 = .ok (.bipush 26, 2) := by decide +kernel
theorem dX7_count_98 : decode cX7_count 98 = .ok (.iaload, 1) := by decide +kernel
theorem dX7_count_99 : decode cX7_count 99 = .ok (.ireturn, 1) := by decide +kernel
theorem dX7_count_100 : decode cX7_count 100 = .ok (.aload_n 0, 1) := by decide +kernel
theorem dX7_count_101 : decode cX7_count 101 = .ok (.getfield 7, 3) := by decide +kernel
theorem dX7_count_104 : decode cX7_count 104 = .ok (.bipush 26, 2) := by decide +kernel
theorem dX7_count_106 : decode cX7_count 106 = .ok (.iaload, 1) := by decide +kernel
theorem dX7_count_107 : decode cX7_count 107 = .ok (.bipush 96, 2) := by decide +kernel
theorem dX7_count_109 : decode cX7_count 109 = .ok (.idiv, 1) := by decide +kernel
theorem dX7_count_110 : decode cX7_count 110 = .ok (.ireturn, 1) := by decide +kernel
theorem dX7_count_111 : decode cX7_count 111 = .ok (.aload_n 0, 1) := by decide +kernel
theorem dX7_count_112 : decode cX7_count 112 = .ok (.getfield 34, 3) := by decide +kernel
theorem dX7_count_115 : decode cX7_count 115 = .ok (.ireturn, 1) := by decide +kernel
theorem dX7_count_116 : decode cX7_count 116 = .ok (.aload_n 0, 1) := by decide +kernel
theorem dX7_count_117 : decode cX7_count 117 = .ok (.getfield 171, 3) := by decide +kernel
theorem dX7_count_120 : decode cX7_count 120 = .ok (.ireturn, 1) := by decide +kernel
theorem dX7_count_121 : decode cX7_count 121 = .ok (.iload_n 1, 1) := by decide +kernel
theorem dX7_count_122 : decode cX7_count 122 = .ok (.bipush 20, 2) := by decide +kernel
theorem dX7_count_124 : decode cX7_count 124 = .ok (.bipush 32, 2) := by decide +kernel
theorem dX7_count_126 : decode cX7_count 126 = .ok (.invokestatic 29, 3) := by decide +kernel
theorem dX7_count_129 : decode cX7_count 129 = .ok (.ifCond .eq 15, 3) := by decide +kernel
theorem dX7_count_132 : decode cX7_count 132 = .ok (.aload_n 0, 1) := by decide +kernel
theorem dX7_count_133 : decode cX7_count 133 = .ok (.getfield 7, 3) := by decide +kernel
theorem dX7_count_136 : decode cX7_count 136 = .ok (.iload_n 1, 1) := by decide +kernel
theorem dX7_count_137 : decode cX7_count 137 = .ok (.bipush 20, 2) := by decide +kernel
theorem dX7_count_139 : decode cX7_count 139 = .ok (.isub, 1) := by decide +kernel
theorem dX7_count_140 : decode cX7_count 140 = .ok (.iaload, 1) := by decide +kernel
theorem dX7_count_141 : decode cX7_count 141 = .ok (.goto 5, 3) := by decide +kernel
theorem dX7_count_144 : decode cX7_count 144 = .ok (.ldc 33, 2) := by decide +kernel
theorem dX7_count_146 : decode cX7_count 146 = .ok (.ireturn, 1) := by decide +kernel
theorem dX7_undo_0 : decode cX7_undo 0 = .ok (.aload_n 0, 1) := by decide +kernel
theorem dX7_undo_1 : decode cX7_undo 1 = .ok (.getfield 34, 3) := by decide +kernel
theorem dX7_undo_4 : decode cX7_undo 4 = .ok (.ifCond .ne 6, 3) := by decide +kernel
theorem dX7_undo_7 : decode cX7_undo 7 = .ok (.ldc 105, 2) := by decide +kernel
theorem dX7_undo_9 : decode cX7_undo 9 = .ok (.ireturn, 1) := by decide +kernel
theorem dX7_undo_10 : decode cX7_undo 10 = .ok (.aload_n 0, 1) := by decide +kernel
theorem dX7_undo_11 : decode cX7_undo 11 = .ok (.dup, 1) := by decide +kernel
theorem dX7_undo_12 : decode cX7_undo 12 = .ok (.getfield 34, 3) := by decide +kernel
theorem dX7_undo_15 : decode cX7_undo 15 = .ok (.iconst 1, 1) := by decide +kernel
theorem dX7_undo_16 : decode cX7_undo 16 = .ok (.isub, 1) := by decide +kernel
theorem dX7_undo_17 : decode cX7_undo 17 = .ok (.putfield 34, 3) := by decide +kernel
theorem dX7_undo_20 : decode cX7_undo 20 = .ok (.iconst 0, 1) := by decide +kernel
theorem dX7_undo_21 : decode cX7_undo 21 = .ok (.istore_n 1, 1) := by decide +kernel
theorem dX7_undo_22 : decode cX7_undo 22 = .ok (.iload_n 1, 1) := by decide +kernel
theorem dX7_undo_23 : decode cX7_undo 23 = .ok (.sipush 368, 3) := by decide +kernel
theorem dX7_undo_26 : decode cX7_undo 26 = .ok (.if_icmp .ge 30, 3) := by decide +kernel
theorem dX7_undo_29 : decode cX7_undo 29 = .ok (.aload_n 0, 1) := by decide +kernel
theorem dX7_undo_30 : decode cX7_undo 30 = .ok (.getfield 7, 3) := by decide +kernel
theorem dX7_undo_33 : decode cX7_undo 33 = .ok (.iload_n 1, 1) := by decide +kernel
theorem dX7_undo_34 : decode cX7_undo 34 = .ok (.aload_n 0, 1) := by decide +kernel
theorem dX7_undo_35 : decode cX7_undo 35 = .ok (.getfield 13, 3) := by decide +kernel
theorem dX7_undo_38 : decode cX7_undo 38 = .ok (.sipush 368, 3) := by decide +kernel
theorem dX7_undo_41 : decode cX7_undo 41 = .ok (.aload_n 0, 1) := by decide +kernel
theorem dX7_undo_42 : decode cX7_undo 42 = .ok (.getfield 34, 3) := by decide +kernel
theorem dX7_undo_45 : decode cX7_undo 45 = .ok (.imul, 1) := by decide +kernel
theorem dX7_undo_46 : decode cX7_undo 46 = .ok (.iload_n 1, 1) := by decide +kernel
theorem dX7_undo_47 : decode cX7_undo 47 = .ok (.iadd, 1) := by decide +kernel
theorem dX7_undo_48 : decode cX7_undo 48 = .ok (.iaload, 1) := by decide +kernel
theorem dX7_undo_49 : decode cX7_undo 49 = .ok (.iastore, 1) := by decide +kernel
theorem dX7_undo_50 : decode cX7_undo 50 = .ok (.iinc 1 1, 3) := by decide +kernel
theorem dX7_undo_53 : decode cX7_undo 53 = .ok (.goto (-31), 3) := by decide +kernel
theorem dX7_undo_56 : decode cX7_undo 56 = .ok (.aload_n 0, 1) := by decide +kernel
theorem dX7_undo_57 : decode cX7_undo 57 = .ok (.getfield 34, 3) := by decide +kernel
theorem dX7_undo_60 : decode cX7_undo 60 = .ok (.ireturn, 1) := by decide +kernel
theorem dX7_type_0 : decode cX7_type 0 = .ok (.iload_n 1, 1) := by decide +kernel
theorem dX7_type_1 : decode cX7_type 1 = .ok (.bipush 32, 2) := by decide +kernel
theorem dX7_type_3 : decode cX7_type 3 = .ok (.bipush 126, 2) := by decide +kernel
theorem dX7_type_5 : decode cX7_type 5 = .ok (.invokestatic 29, 3) := by decide +kernel
theorem dX7_type_8 : decode cX7_type 8 = .ok (.ifCond .ne 6, 3) := by decide +kernel
theorem dX7_type_11 : decode cX7_type 11 = .ok (.ldc 33, 2) := by decide +kernel
theorem dX7_type_13 : decode cX7_type 13 = .ok (.ireturn, 1) := by decide +kernel
theorem dX7_type_14 : decode cX7_type 14 = .ok (.aload_n 0, 1) := by decide +kernel
theorem dX7_type_15 : decode cX7_type 15 = .ok (.getfield 171, 3) := by decide +kernel
theorem dX7_type_18 : decode cX7_type 18 = .ok (.bipush 60, 2) := by decide +kernel
theorem dX7_type_20 : decode cX7_type 20 = .ok (.if_icmp .ne 6, 3) := by decide +kernel
theorem dX7_type_23 : decode cX7_type 23 = .ok (.ldc 101, 2) := by decide +kernel
theorem dX7_type_25 : decode cX7_type 25 = .ok (.ireturn, 1) := by decide +kernel
theorem dX7_type_26 : decode cX7_type 26 = .ok (.aload_n 0, 1) := by decide +kernel
theorem dX7_type_27 : decode cX7_type 27 = .ok (.getfield 22, 3) := by decide +kernel
theorem dX7_type_30 : decode cX7_type 30 = .ok (.aload_n 0, 1) := by decide +kernel
theorem dX7_type_31 : decode cX7_type 31 = .ok (.getfield 171, 3) := by decide +kernel
theorem dX7_type_34 : decode cX7_type 34 = .ok (.iload_n 1, 1) := by decide +kernel
theorem dX7_type_35 : decode cX7_type 35 = .ok (.i2c, 1) := by decide +kernel
theorem dX7_type_36 : decode cX7_type 36 = .ok (.castore, 1) := by decide +kernel
theorem dX7_type_37 : decode cX7_type 37 = .ok (.aload_n 0, 1) := by decide +kernel
theorem dX7_type_38 : decode cX7_type 38 = .ok (.dup, 1) := by decide +kernel
theorem dX7_type_39 : decode cX7_type 39 = .ok (.getfield 171, 3) := by decide +kernel
theorem dX7_type_42 : decode cX7_type 42 = .ok (.iconst 1, 1) := by decide +kernel
theorem dX7_type_43 : decode cX7_type 43 = .ok (.iadd, 1) := by decide +kernel
theorem dX7_type_44 : decode cX7_type 44 = .ok (.putfield 171, 3) := by decide +kernel
theorem dX7_type_47 : decode cX7_type 47 = .ok (.aload_n 0, 1) := by decide +kernel
theorem dX7_type_48 : decode cX7_type 48 = .ok (.getfield 171, 3) := by decide +kernel
theorem dX7_type_51 : decode cX7_type 51 = .ok (.ireturn, 1) := by decide +kernel
theorem dX7_clearText_0 : decode cX7_clearText 0 = .ok (.aload_n 0, 1) := by decide +kernel
theorem dX7_clearText_1 : decode cX7_clearText 1 = .ok (.getfield 171, 3) := by decide +kernel
theorem dX7_clearText_4 : decode cX7_clearText 4 = .ok (.istore_n 1, 1) := by decide +kernel
theorem dX7_clearText_5 : decode cX7_clearText 5 = .ok (.aload_n 0, 1) := by decide +kernel
theorem dX7_clearText_6 : decode cX7_clearText 6 = .ok (.iconst 0, 1) := by decide +kernel
theorem dX7_clearText_7 : decode cX7_clearText 7 = .ok (.putfield 171, 3) := by decide +kernel
theorem dX7_clearText_10 : decode cX7_clearText 10 = .ok (.iload_n 1, 1) := by decide +kernel
theorem dX7_clearText_11 : decode cX7_clearText 11 = .ok (.ireturn, 1) := by decide +kernel
theorem dX7_passes_0 : decode cX7_passes 0 = .ok (.aload_n 0, 1) := by decide +kernel
theorem dX7_passes_1 : decode cX7_passes 1 = .ok (.getfield 174, 3) := by decide +kernel
theorem dX7_passes_4 : decode cX7_passes 4 = .ok (.aload_n 0, 1) := by decide +kernel
theorem dX7_passes_5 : decode cX7_passes 5 = .ok (.getfield 171, 3) := by decide +kernel
theorem dX7_passes_8 : decode cX7_passes 8 = .ok (.if_icmp .ge 20, 3) := by decide +kernel
theorem dX7_passes_11 : decode cX7_passes 11 = .ok (.aload_n 0, 1) := by decide +kernel
theorem dX7_passes_12 : decode cX7_passes 12 = .ok (.getfield 22, 3) := by decide +kernel
theorem dX7_passes_15 : decode cX7_passes 15 = .ok (.aload_n 0, 1) := by decide +kernel
theorem dX7_passes_16 : decode cX7_passes 16 = .ok (.getfield 174, 3) := by decide +kernel
theorem dX7_passes_19 : decode cX7_passes 19 = .ok (.caload, 1) := by decide +kernel
theorem dX7_passes_20 : decode cX7_passes 20 = .ok (.iload_n 1, 1) := by decide +kernel
theorem dX7_passes_21 : decode cX7_passes 21 = .ok (.if_icmp .ne 7, 3) := by decide +kernel
theorem dX7_passes_24 : decode cX7_passes 24 = .ok (.iconst 1, 1) := by decide +kernel
theorem dX7_passes_25 : decode cX7_passes 25 = .ok (.goto 4, 3) := by decide +kernel
theorem dX7_passes_28 : decode cX7_passes 28 = .ok (.iconst 0, 1) := by decide +kernel
theorem dX7_passes_29 : decode cX7_passes 29 = .ok (.istore_n 2, 1) := by decide +kernel
theorem dX7_passes_30 : decode cX7_passes 30 = .ok (.aload_n 0, 1) := by decide +kernel
theorem dX7_passes_31 : decode cX7_passes 31 = .ok (.dup, 1) := by decide +kernel
theorem dX7_passes_32 : decode cX7_passes 32 = .ok (.getfield 174, 3) := by decide +kernel
theorem dX7_passes_35 : decode cX7_passes 35 = .ok (.iload_n 2, 1) := by decide +kernel
theorem dX7_passes_36 : decode cX7_passes 36 = .ok (.ifCond .eq 7, 3) := by decide +kernel
theorem dX7_passes_39 : decode cX7_passes 39 = .ok (.iconst 1, 1) := by decide +kernel
theorem dX7_passes_40 : decode cX7_passes 40 = .ok (.goto 4, 3) := by decide +kernel
theorem dX7_passes_43 : decode cX7_passes 43 = .ok (.iconst 0, 1) := by decide +kernel
theorem dX7_passes_44 : decode cX7_passes 44 = .ok (.iadd, 1) := by decide +kernel
theorem dX7_passes_45 : decode cX7_passes 45 = .ok (.putfield 174, 3) := by decide +kernel
theorem dX7_passes_48 : decode cX7_passes 48 = .ok (.iload_n 2, 1) := by decide +kernel
theorem dX7_passes_49 : decode cX7_passes 49 = .ok (.ireturn, 1) := by decide +kernel
theorem dX7_takes_0 : decode cX7_takes 0 = .ok (.aload_n 0, 1) := by decide +kernel
theorem dX7_takes_1 : decode cX7_takes 1 = .ok (.getfield 174, 3) := by decide +kernel
theorem dX7_takes_4 : decode cX7_takes 4 = .ok (.istore_n 2, 1) := by decide +kernel
theorem dX7_takes_5 : decode cX7_takes 5 = .ok (.aload_n 0, 1) := by decide +kernel
theorem dX7_takes_6 : decode cX7_takes 6 = .ok (.getfield 26, 3) := by decide +kernel
theorem dX7_takes_9 : decode cX7_takes 9 = .ok (.iload_n 1, 1) := by decide +kernel
theorem dX7_takes_10 : decode cX7_takes 10 = .ok (.iconst 0, 1) := by decide +kernel
theorem dX7_takes_11 : decode cX7_takes 11 = .ok (.iastore, 1) := by decide +kernel
theorem dX7_takes_12 : decode cX7_takes 12 = .ok (.aload_n 0, 1) := by decide +kernel
theorem dX7_takes_13 : decode cX7_takes 13 = .ok (.getfield 174, 3) := by decide +kernel
theorem dX7_takes_16 : decode cX7_takes 16 = .ok (.aload_n 0, 1) := by decide +kernel
theorem dX7_takes_17 : decode cX7_takes 17 = .ok (.getfield 171, 3) := by decide +kernel
theorem dX7_takes_20 : decode cX7_takes 20 = .ok (.if_icmp .ge 73, 3) := by decide +kernel
theorem dX7_takes_23 : decode cX7_takes 23 = .ok (.aload_n 0, 1) := by decide +kernel
theorem dX7_takes_24 : decode cX7_takes 24 = .ok (.getfield 174, 3) := by decide +kernel
theorem dX7_takes_27 : decode cX7_takes 27 = .ok (.iload_n 2, 1) := by decide +kernel
theorem dX7_takes_28 : decode cX7_takes 28 = .ok (.iconst 3, 1) := by decide +kernel
theorem dX7_takes_29 : decode cX7_takes 29 = .ok (.iadd, 1) := by decide +kernel
theorem dX7_takes_30 : decode cX7_takes 30 = .ok (.if_icmp .ge 63, 3) := by decide +kernel
theorem dX7_takes_33 : decode cX7_takes 33 = .ok (.aload_n 0, 1) := by decide +kernel
theorem dX7_takes_34 : decode cX7_takes 34 = .ok (.getfield 22, 3) := by decide +kernel
theorem dX7_takes_37 : decode cX7_takes 37 = .ok (.aload_n 0, 1) := by decide +kernel
theorem dX7_takes_38 : decode cX7_takes 38 = .ok (.getfield 174, 3) := by decide +kernel
theorem dX7_takes_41 : decode cX7_takes 41 = .ok (.caload, 1) := by decide +kernel
theorem dX7_takes_42 : decode cX7_takes 42 = .ok (.bipush 48, 2) := by decide +kernel
theorem dX7_takes_44 : decode cX7_takes 44 = .ok (.bipush 57, 2) := by decide +kernel
theorem dX7_takes_46 : decode cX7_takes 46 = .ok (.invokestatic 29, 3) := by decide +kernel
theorem dX7_takes_49 : decode cX7_takes 49 = .ok (.ifCond .eq 44, 3) := by decide +kernel
theorem dX7_takes_52 : decode cX7_takes 52 = .ok (.aload_n 0, 1) := by decide +kernel
theorem dX7_takes_53 : decode cX7_takes 53 = .ok (.getfield 26, 3) := by decide +kernel
theorem dX7_takes_56 : decode cX7_takes 56 = .ok (.iload_n 1, 1) := by decide +kernel
theorem dX7_takes_57 : decode cX7_takes 57 = .ok (.bipush 10, 2) := by decide +kernel
theorem dX7_takes_59 : decode cX7_takes 59 = .ok (.aload_n 0, 1) := by decide +kernel
theorem dX7_takes_60 : decode cX7_takes 60 = .ok (.getfield 26, 3) := by decide +kernel
theorem dX7_takes_63 : decode cX7_takes 63 = .ok (.iload_n 1, 1) := by decide +kernel
theorem dX7_takes_64 : decode cX7_takes 64 = .ok (.iaload, 1) := by decide +kernel
theorem dX7_takes_65 : decode cX7_takes 65 = .ok (.imul, 1) := by decide +kernel
theorem dX7_takes_66 : decode cX7_takes 66 = .ok (.aload_n 0, 1) := by decide +kernel
theorem dX7_takes_67 : decode cX7_takes 67 = .ok (.getfield 22, 3) := by decide +kernel
theorem dX7_takes_70 : decode cX7_takes 70 = .ok (.aload_n 0, 1) := by decide +kernel
theorem dX7_takes_71 : decode cX7_takes 71 = .ok (.getfield 174, 3) := by decide +kernel
theorem dX7_takes_74 : decode cX7_takes 74 = .ok (.caload, 1) := by decide +kernel
theorem dX7_takes_75 : decode cX7_takes 75 = .ok (.iadd, 1) := by decide +kernel
theorem dX7_takes_76 : decode cX7_takes 76 = .ok (.bipush 48, 2) := by decide +kernel
theorem dX7_takes_78 : decode cX7_takes 78 = .ok (.isub, 1) := by decide +kernel
theorem dX7_takes_79 : decode cX7_takes 79 = .ok (.iastore, 1) := by decide +kernel
theorem dX7_takes_80 : decode cX7_takes 80 = .ok (.aload_n 0, 1) := by decide +kernel
theorem dX7_takes_81 : decode cX7_takes 81 = .ok (.dup, 1) := by decide +kernel
theorem dX7_takes_82 : decode cX7_takes 82 = .ok (.getfield 174, 3) := by decide +kernel
theorem dX7_takes_85 : decode cX7_takes 85 = .ok (.iconst 1, 1) := by decide +kernel
theorem dX7_takes_86 : decode cX7_takes 86 = .ok (.iadd, 1) := by decide +kernel
theorem dX7_takes_87 : decode cX7_takes 87 = .ok (.putfield 174, 3) := by decide +kernel
theorem dX7_takes_90 : decode cX7_takes 90 = .ok (.goto (-78), 3) := by decide +kernel
theorem dX7_takes_93 : decode cX7_takes 93 = .ok (.aload_n 0, 1) := by decide +kernel
theorem dX7_takes_94 : decode cX7_takes 94 = .ok (.getfield 174, 3) := by decide +kernel
theorem dX7_takes_97 : decode cX7_takes 97 = .ok (.iload_n 2, 1) := by decide +kernel
theorem dX7_takes_98 : decode cX7_takes 98 = .ok (.if_icmp .le 7, 3) := by decide +kernel
theorem dX7_takes_101 : decode cX7_takes 101 = .ok (.iconst 1, 1) := by decide +kernel
theorem dX7_takes_102 : decode cX7_takes 102 = .ok (.goto 4, 3) := by decide +kernel
theorem dX7_takes_105 : decode cX7_takes 105 = .ok (.iconst 0, 1) := by decide +kernel
theorem dX7_takes_106 : decode cX7_takes 106 = .ok (.ireturn, 1) := by decide +kernel
theorem dX7_numbers_0 : decode cX7_numbers 0 = .ok (.iload_n 0, 1) := by decide +kernel
theorem dX7_numbers_1 : decode cX7_numbers 1 = .ok (.bipush 98, 2) := by decide +kernel
theorem dX7_numbers_3 : decode cX7_numbers 3 = .ok (.if_icmp .ne 7, 3) := by decide +kernel
theorem dX7_numbers_6 : decode cX7_numbers 6 = .ok (.iconst 3, 1) := by decide +kernel
theorem dX7_numbers_7 : decode cX7_numbers 7 = .ok (.goto 36, 3) := by decide +kernel
theorem dX7_numbers_10 : decode cX7_numbers 10 = .ok (.iload_n 0, 1) := by decide +kernel
theorem dX7_numbers_11 : decode cX7_numbers 11 = .ok (.bipush 112, 2) := by decide +kernel
theorem dX7_numbers_13 : decode cX7_numbers 13 = .ok (.if_icmp .ne 7, 3) := by decide +kernel
theorem dX7_numbers_16 : decode cX7_numbers 16 = .ok (.iconst 2, 1) := by decide +kernel
theorem dX7_numbers_17 : decode cX7_numbers 17 = .ok (.goto 26, 3) := by decide +kernel
theorem dX7_numbers_20 : decode cX7_numbers 20 = .ok (.iload_n 0, 1) := by decide +kernel
theorem dX7_numbers_21 : decode cX7_numbers 21 = .ok (.bipush 102, 2) := by decide +kernel
theorem dX7_numbers_23 : decode cX7_numbers 23 = .ok (.if_icmp .eq 15, 3) := by decide +kernel
theorem dX7_numbers_26 : decode cX7_numbers 26 = .ok (.iload_n 0, 1) := by decide +kernel
theorem dX7_numbers_27 : decode cX7_numbers 27 = .ok (.bipush 114, 2) := by decide +kernel
theorem dX7_numbers_29 : decode cX7_numbers 29 = .ok (.if_icmp .eq 9, 3) := by decide +kernel
theorem dX7_numbers_32 : decode cX7_numbers 32 = .ok (.iload_n 0, 1) := by decide +kernel
theorem dX7_numbers_33 : decode cX7_numbers 33 = .ok (.bipush 103, 2) := by decide +kernel
theorem dX7_numbers_35 : decode cX7_numbers 35 = .ok (.if_icmp .ne 7, 3) := by decide +kernel
theorem dX7_numbers_38 : decode cX7_numbers 38 = .ok (.iconst 1, 1) := by decide +kernel
theorem dX7_numbers_39 : decode cX7_numbers 39 = .ok (.goto 4, 3) := by decide +kernel
theorem dX7_numbers_42 : decode cX7_numbers 42 = .ok (.iconst 0, 1) := by decide +kernel
theorem dX7_numbers_43 : decode cX7_numbers 43 = .ok (.ireturn, 1) := by decide +kernel
theorem dX7_readsForm_0 : decode cX7_readsForm 0 = .ok (.iload_n 1, 1) := by decide +kernel
theorem dX7_readsForm_1 : decode cX7_readsForm 1 = .ok (.ifCond .le 7, 3) := by decide +kernel
theorem dX7_readsForm_4 : decode cX7_readsForm 4 = .ok (.iconst 1, 1) := by decide +kernel
theorem dX7_readsForm_5 : decode cX7_readsForm 5 = .ok (.goto 4, 3) := by decide +kernel
theorem dX7_readsForm_8 : decode cX7_readsForm 8 = .ok (.iconst 0, 1) := by decide +kernel
theorem dX7_readsForm_9 : decode cX7_readsForm 9 = .ok (.istore_n 2, 1) := by decide +kernel
theorem dX7_readsForm_10 : decode cX7_readsForm 10 = .ok (.iconst 0, 1) := by decide +kernel
theorem dX7_readsForm_11 : decode cX7_readsForm 11 = .ok (.istore_n 3, 1) := by decide +kernel
theorem dX7_readsForm_12 : decode cX7_readsForm 12 = .ok (.iload_n 3, 1) := by decide +kernel
theorem dX7_readsForm_13 : decode cX7_readsForm 13 = .ok (.iload_n 1, 1) := by decide +kernel
theorem dX7_readsForm_14 : decode cX7_readsForm 14 = .ok (.if_icmp .ge 40, 3) := by decide +kernel
theorem dX7_readsForm_17 : decode cX7_readsForm 17 = .ok (.iload_n 2, 1) := by decide +kernel
theorem dX7_readsForm_18 : decode cX7_readsForm 18 = .ok (.ifCond .eq 36, 3) := by decide +kernel
theorem dX7_readsForm_21 : decode cX7_readsForm 21 = .ok (.iload_n 3, 1) := by decide +kernel
theorem dX7_readsForm_22 : decode cX7_readsForm 22 = .ok (.ifCond .eq 12, 3) := by decide +kernel
theorem dX7_readsForm_25 : decode cX7_readsForm 25 = .ok (.aload_n 0, 1) := by decide +kernel
theorem dX7_readsForm_26 : decode cX7_readsForm 26 = .ok (.bipush 44, 2) := by decide +kernel
theorem dX7_readsForm_28 : decode cX7_readsForm 28 = .ok (.invokevirtual 177, 3) := by decide +kernel
theorem dX7_readsForm_31 : decode cX7_readsForm 31 = .ok (.ifCond .eq 15, 3) := by decide +kernel
theorem dX7_readsForm_34 : decode cX7_readsForm 34 = .ok (.aload_n 0, 1) := by decide +kernel
theorem dX7_readsForm_35 : decode cX7_readsForm 35 = .ok (.iload_n 3, 1) := by decide +kernel
theorem dX7_readsForm_36 : decode cX7_readsForm 36 = .ok (.invokevirtual 181, 3) := by decide +kernel
theorem dX7_readsForm_39 : decode cX7_readsForm 39 = .ok (.ifCond .eq 7, 3) := by decide +kernel
theorem dX7_readsForm_42 : decode cX7_readsForm 42 = .ok (.iconst 1, 1) := by decide +kernel
theorem dX7_readsForm_43 : decode cX7_readsForm 43 = .ok (.goto 4, 3) := by decide +kernel
theorem dX7_readsForm_46 : decode cX7_readsForm 46 = .ok (.iconst 0, 1) := by decide +kernel
theorem dX7_readsForm_47 : decode cX7_readsForm 47 = .ok (.istore_n 2, 1) := by decide +kernel
theorem dX7_readsForm_48 : decode cX7_readsForm 48 = .ok (.iinc 3 1, 3) := by decide +kernel
theorem dX7_readsForm_51 : decode cX7_readsForm 51 = .ok (.goto (-39), 3) := by decide +kernel
theorem dX7_readsForm_54 : decode cX7_readsForm 54 = .ok (.iload_n 2, 1) := by decide +kernel
theorem dX7_readsForm_55 : decode cX7_readsForm 55 = .ok (.ifCond .eq 16, 3) := by decide +kernel
theorem dX7_readsForm_58 : decode cX7_readsForm 58 = .ok (.aload_n 0, 1) := by decide +kernel
theorem dX7_readsForm_59 : decode cX7_readsForm 59 = .ok (.bipush 59, 2) := by decide +kernel
theorem dX7_readsForm_61 : decode cX7_readsForm 61 = .ok (.invokevirtual 177, 3) := by decide +kernel
theorem dX7_readsForm_64 : decode cX7_readsForm 64 = .ok (.ifCond .eq 7, 3) := by decide +kernel
theorem dX7_readsForm_67 : decode cX7_readsForm 67 = .ok (.iconst 1, 1) := by decide +kernel
theorem dX7_readsForm_68 : decode cX7_readsForm 68 = .ok (.goto 4, 3) := by decide +kernel
theorem dX7_readsForm_71 : decode cX7_readsForm 71 = .ok (.iconst 0, 1) := by decide +kernel
theorem dX7_readsForm_72 : decode cX7_readsForm 72 = .ok (.ireturn, 1) := by decide +kernel
theorem dX7_does_0 : decode cX7_does 0 = .ok (.iload_n 1, 1) := by decide +kernel
theorem dX7_does_1 : decode cX7_does 1 = .ok (.lookupswitch 105 #[(98, 43), (102, 66), (112, 77), (114, 94)], 43) := by decide +kernel
theorem dX7_does_44 : decode cX7_does 44 = .ok (.aload_n 0, 1) := by decide +kernel
theorem dX7_does_45 : decode cX7_does 45 = .ok (.aload_n 0, 1) := by decide +kernel
theorem dX7_does_46 : decode cX7_does 46 = .ok (.getfield 26, 3) := by decide +kernel
theorem dX7_does_49 : decode cX7_does 49 = .ok (.iconst 0, 1) := by decide +kernel
theorem dX7_does_50 : decode cX7_does 50 = .ok (.iaload, 1) := by decide +kernel
theorem dX7_does_51 : decode cX7_does 51 = .ok (.aload_n 0, 1) := by decide +kernel
theorem dX7_does_52 : decode cX7_does 52 = .ok (.getfield 26, 3) := by decide +kernel
theorem dX7_does_55 : decode cX7_does 55 = .ok (.iconst 1, 1) := by decide +kernel
theorem dX7_does_56 : decode cX7_does 56 = .ok (.iaload, 1) := by decide +kernel
theorem dX7_does_57 : decode cX7_does 57 = .ok (.aload_n 0, 1) := by decide +kernel
theorem dX7_does_58 : decode cX7_does 58 = .ok (.getfield 26, 3) := by decide +kernel
theorem dX7_does_61 : decode cX7_does 61 = .ok (.iconst 2, 1) := by decide +kernel
theorem dX7_does_62 : decode cX7_does 62 = .ok (.iaload, 1) := by decide +kernel
theorem dX7_does_63 : decode cX7_does 63 = .ok (.invokevirtual 134, 3) := by decide +kernel
theorem dX7_does_66 : decode cX7_does 66 = .ok (.ireturn, 1) := by decide +kernel
theorem dX7_does_67 : decode cX7_does 67 = .ok (.aload_n 0, 1) := by decide +kernel
theorem dX7_does_68 : decode cX7_does 68 = .ok (.aload_n 0, 1) := by decide +kernel
theorem dX7_does_69 : decode cX7_does 69 = .ok (.getfield 26, 3) := by decide +kernel
theorem dX7_does_72 : decode cX7_does 72 = .ok (.iconst 0, 1) := by decide +kernel
theorem dX7_does_73 : decode cX7_does 73 = .ok (.iaload, 1) := by decide +kernel
theorem dX7_does_74 : decode cX7_does 74 = .ok (.invokevirtual 138, 3) := by decide +kernel
theorem dX7_does_77 : decode cX7_does 77 = .ok (.ireturn, 1) := by decide +kernel
theorem dX7_does_78 : decode cX7_does 78 = .ok (.aload_n 0, 1) := by decide +kernel
theorem dX7_does_79 : decode cX7_does 79 = .ok (.aload_n 0, 1) := by decide +kernel
theorem dX7_does_80 : decode cX7_does 80 = .ok (.getfield 26, 3) := by decide +kernel
theorem dX7_does_83 : decode cX7_does 83 = .ok (.iconst 0, 1) := by decide +kernel
theorem dX7_does_84 : decode cX7_does 84 = .ok (.iaload, 1) := by decide +kernel
theorem dX7_does_85 : decode cX7_does 85 = .ok (.aload_n 0, 1) := by decide +kernel
theorem dX7_does_86 : decode cX7_does 86 = .ok (.getfield 26, 3) := by decide +kernel
theorem dX7_does_89 : decode cX7_does 89 = .ok (.iconst 1, 1) := by decide +kernel
theorem dX7_does_90 : decode cX7_does 90 = .ok (.iaload, 1) := by decide +kernel
theorem dX7_does_91 : decode cX7_does 91 = .ok (.invokevirtual 153, 3) := by decide +kernel
theorem dX7_does_94 : decode cX7_does 94 = .ok (.ireturn, 1) := by decide +kernel
theorem dX7_does_95 : decode cX7_does 95 = .ok (.aload_n 0, 1) := by decide +kernel
theorem dX7_does_96 : decode cX7_does 96 = .ok (.aload_n 0, 1) := by decide +kernel
theorem dX7_does_97 : decode cX7_does 97 = .ok (.getfield 26, 3) := by decide +kernel
theorem dX7_does_100 : decode cX7_does 100 = .ok (.iconst 0, 1) := by decide +kernel
theorem dX7_does_101 : decode cX7_does 101 = .ok (.iaload, 1) := by decide +kernel
theorem dX7_does_102 : decode cX7_does 102 = .ok (.invokevirtual 156, 3) := by decide +kernel
theorem dX7_does_105 : decode cX7_does 105 = .ok (.ireturn, 1) := by decide +kernel
theorem dX7_does_106 : decode cX7_does 106 = .ok (.aload_n 0, 1) := by decide +kernel
theorem dX7_does_107 : decode cX7_does 107 = .ok (.aload_n 0, 1) := by decide +kernel
theorem dX7_does_108 : decode cX7_does 108 = .ok (.getfield 26, 3) := by decide +kernel
theorem dX7_does_111 : decode cX7_does 111 = .ok (.iconst 0, 1) := by decide +kernel
theorem dX7_does_112 : decode cX7_does 112 = .ok (.iaload, 1) := by decide +kernel
theorem dX7_does_113 : decode cX7_does 113 = .ok (.invokevirtual 130, 3) := by decide +kernel
theorem dX7_does_116 : decode cX7_does 116 = .ok (.ireturn, 1) := by decide +kernel
theorem dX7_doesNext_0 : decode cX7_doesNext 0 = .ok (.aload_n 0, 1) := by decide +kernel
theorem dX7_doesNext_1 : decode cX7_doesNext 1 = .ok (.getfield 22, 3) := by decide +kernel
theorem dX7_doesNext_4 : decode cX7_doesNext 4 = .ok (.aload_n 0, 1) := by decide +kernel
theorem dX7_doesNext_5 : decode cX7_doesNext 5 = .ok (.getfield 174, 3) := by decide +kernel
theorem dX7_doesNext_8 : decode cX7_doesNext 8 = .ok (.caload, 1) := by decide +kernel
theorem dX7_doesNext_9 : decode cX7_doesNext 9 = .ok (.istore_n 1, 1) := by decide +kernel
theorem dX7_doesNext_10 : decode cX7_doesNext 10 = .ok (.aload_n 0, 1) := by decide +kernel
theorem dX7_doesNext_11 : decode cX7_doesNext 11 = .ok (.dup, 1) := by decide +kernel
theorem dX7_doesNext_12 : decode cX7_doesNext 12 = .ok (.getfield 174, 3) := by decide +kernel
theorem dX7_doesNext_15 : decode cX7_doesNext 15 = .ok (.iconst 1, 1) := by decide +kernel
theorem dX7_doesNext_16 : decode cX7_doesNext 16 = .ok (.iadd, 1) := by decide +kernel
theorem dX7_doesNext_17 : decode cX7_doesNext 17 = .ok (.putfield 174, 3) := by decide +kernel
theorem dX7_doesNext_20 : decode cX7_doesNext 20 = .ok (.aload_n 0, 1) := by decide +kernel
theorem dX7_doesNext_21 : decode cX7_doesNext 21 = .ok (.iload_n 1, 1) := by decide +kernel
theorem dX7_doesNext_22 : decode cX7_doesNext 22 = .ok (.invokestatic 184, 3) := by decide +kernel
theorem dX7_doesNext_25 : decode cX7_doesNext 25 = .ok (.invokevirtual 188, 3) := by decide +kernel
theorem dX7_doesNext_28 : decode cX7_doesNext 28 = .ok (.ifCond .ne 5, 3) := by decide +kernel
theorem dX7_doesNext_31 : decode cX7_doesNext 31 = .ok (.iconst 1, 1) := by decide +kernel
theorem dX7_doesNext_32 : decode cX7_doesNext 32 = .ok (.ireturn, 1) := by decide +kernel
theorem dX7_doesNext_33 : decode cX7_doesNext 33 = .ok (.iload_n 1, 1) := by decide +kernel
theorem dX7_doesNext_34 : decode cX7_doesNext 34 = .ok (.bipush 103, 2) := by decide +kernel
theorem dX7_doesNext_36 : decode cX7_doesNext 36 = .ok (.if_icmp .eq 51, 3) := by decide +kernel
theorem dX7_doesNext_39 : decode cX7_doesNext 39 = .ok (.iload_n 1, 1) := by decide +kernel
theorem dX7_doesNext_40 : decode cX7_doesNext 40 = .ok (.bipush 98, 2) := by decide +kernel
theorem dX7_doesNext_42 : decode cX7_doesNext 42 = .ok (.if_icmp .ne 32, 3) := by decide +kernel
theorem dX7_doesNext_45 : decode cX7_doesNext 45 = .ok (.aload_n 0, 1) := by decide +kernel
theorem dX7_doesNext_46 : decode cX7_doesNext 46 = .ok (.aload_n 0, 1) := by decide +kernel
theorem dX7_doesNext_47 : decode cX7_doesNext 47 = .ok (.getfield 26, 3) := by decide +kernel
theorem dX7_doesNext_50 : decode cX7_doesNext 50 = .ok (.iconst 0, 1) := by decide +kernel
theorem dX7_doesNext_51 : decode cX7_doesNext 51 = .ok (.iaload, 1) := by decide +kernel
theorem dX7_doesNext_52 : decode cX7_doesNext 52 = .ok (.invokevirtual 94, 3) := by decide +kernel
theorem dX7_doesNext_55 : decode cX7_doesNext 55 = .ok (.ifCond .eq 36, 3) := by decide +kernel
theorem dX7_doesNext_58 : decode cX7_doesNext 58 = .ok (.aload_n 0, 1) := by decide +kernel
theorem dX7_doesNext_59 : decode cX7_doesNext 59 = .ok (.aload_n 0, 1) := by decide +kernel
theorem dX7_doesNext_60 : decode cX7_doesNext 60 = .ok (.getfield 26, 3) := by decide +kernel
theorem dX7_doesNext_63 : decode cX7_doesNext 63 = .ok (.iconst 1, 1) := by decide +kernel
theorem dX7_doesNext_64 : decode cX7_doesNext 64 = .ok (.iaload, 1) := by decide +kernel
theorem dX7_doesNext_65 : decode cX7_doesNext 65 = .ok (.invokevirtual 98, 3) := by decide +kernel
theorem dX7_doesNext_68 : decode cX7_doesNext 68 = .ok (.ifCond .eq 23, 3) := by decide +kernel
theorem dX7_doesNext_71 : decode cX7_doesNext 71 = .ok (.goto 16, 3) := by decide +kernel
theorem dX7_doesNext_74 : decode cX7_doesNext 74 = .ok (.aload_n 0, 1) := by decide +kernel
theorem dX7_doesNext_75 : decode cX7_doesNext 75 = .ok (.aload_n 0, 1) := by decide +kernel
theorem dX7_doesNext_76 : decode cX7_doesNext 76 = .ok (.getfield 26, 3) := by decide +kernel
theorem dX7_doesNext_79 : decode cX7_doesNext 79 = .ok (.iconst 0, 1) := by decide +kernel
theorem dX7_doesNext_80 : decode cX7_doesNext 80 = .ok (.iaload, 1) := by decide +kernel
theorem dX7_doesNext_81 : decode cX7_doesNext 81 = .ok (.invokevirtual 102, 3) := by decide +kernel
theorem dX7_doesNext_84 : decode cX7_doesNext 84 = .ok (.ifCond .eq 7, 3) := by decide +kernel
theorem dX7_doesNext_87 : decode cX7_doesNext 87 = .ok (.iconst 1, 1) := by decide +kernel
theorem dX7_doesNext_88 : decode cX7_doesNext 88 = .ok (.goto 4, 3) := by decide +kernel
theorem dX7_doesNext_91 : decode cX7_doesNext 91 = .ok (.iconst 0, 1) := by decide +kernel
theorem dX7_doesNext_92 : decode cX7_doesNext 92 = .ok (.istore_n 2, 1) := by decide +kernel
theorem dX7_doesNext_93 : decode cX7_doesNext 93 = .ok (.iload_n 2, 1) := by decide +kernel
theorem dX7_doesNext_94 : decode cX7_doesNext 94 = .ok (.ifCond .ne 7, 3) := by decide +kernel
theorem dX7_doesNext_97 : decode cX7_doesNext 97 = .ok (.iconst 2, 1) := by decide +kernel
theorem dX7_doesNext_98 : decode cX7_doesNext 98 = .ok (.goto 18, 3) := by decide +kernel
theorem dX7_doesNext_101 : decode cX7_doesNext 101 = .ok (.aload_n 0, 1) := by decide +kernel
theorem dX7_doesNext_102 : decode cX7_doesNext 102 = .ok (.iload_n 1, 1) := by decide +kernel
theorem dX7_doesNext_103 : decode cX7_doesNext 103 = .ok (.invokevirtual 191, 3) := by decide +kernel
theorem dX7_doesNext_106 : decode cX7_doesNext 106 = .ok (.ldc 33, 2) := by decide +kernel
theorem dX7_doesNext_108 : decode cX7_doesNext 108 = .ok (.if_icmp .gt 7, 3) := by decide +kernel
theorem dX7_doesNext_111 : decode cX7_doesNext 111 = .ok (.iconst 3, 1) := by decide +kernel
theorem dX7_doesNext_112 : decode cX7_doesNext 112 = .ok (.goto 4, 3) := by decide +kernel
theorem dX7_doesNext_115 : decode cX7_doesNext 115 = .ok (.iconst 0, 1) := by decide +kernel
theorem dX7_doesNext_116 : decode cX7_doesNext 116 = .ok (.ireturn, 1) := by decide +kernel
theorem dX7_faulty_0 : decode cX7_faulty 0 = .ok (.aload_n 0, 1) := by decide +kernel
theorem dX7_faulty_1 : decode cX7_faulty 1 = .ok (.invokevirtual 165, 3) := by decide +kernel
theorem dX7_faulty_4 : decode cX7_faulty 4 = .ok (.ldc 151, 2) := by decide +kernel
theorem dX7_faulty_6 : decode cX7_faulty 6 = .ok (.istore_n 1, 1) := by decide +kernel
theorem dX7_faulty_7 : decode cX7_faulty 7 = .ok (.aload_n 0, 1) := by decide +kernel
theorem dX7_faulty_8 : decode cX7_faulty 8 = .ok (.iconst 0, 1) := by decide +kernel
theorem dX7_faulty_9 : decode cX7_faulty 9 = .ok (.putfield 174, 3) := by decide +kernel
theorem dX7_faulty_12 : decode cX7_faulty 12 = .ok (.aload_n 0, 1) := by decide +kernel
theorem dX7_faulty_13 : decode cX7_faulty 13 = .ok (.getfield 174, 3) := by decide +kernel
theorem dX7_faulty_16 : decode cX7_faulty 16 = .ok (.aload_n 0, 1) := by decide +kernel
theorem dX7_faulty_17 : decode cX7_faulty 17 = .ok (.getfield 171, 3) := by decide +kernel
theorem dX7_faulty_20 : decode cX7_faulty 20 = .ok (.if_icmp .ge 38, 3) := by decide +kernel
theorem dX7_faulty_23 : decode cX7_faulty 23 = .ok (.iload_n 1, 1) := by decide +kernel
theorem dX7_faulty_24 : decode cX7_faulty 24 = .ok (.ldc 151, 2) := by decide +kernel
theorem dX7_faulty_26 : decode cX7_faulty 26 = .ok (.if_icmp .ne 32, 3) := by decide +kernel
theorem dX7_faulty_29 : decode cX7_faulty 29 = .ok (.aload_n 0, 1) := by decide +kernel
theorem dX7_faulty_30 : decode cX7_faulty 30 = .ok (.getfield 174, 3) := by decide +kernel
theorem dX7_faulty_33 : decode cX7_faulty 33 = .ok (.istore_n 2, 1) := by decide +kernel
theorem dX7_faulty_34 : decode cX7_faulty 34 = .ok (.aload_n 0, 1) := by decide +kernel
theorem dX7_faulty_35 : decode cX7_faulty 35 = .ok (.aload_n 0, 1) := by decide +kernel
theorem dX7_faulty_36 : decode cX7_faulty 36 = .ok (.invokevirtual 194, 3) := by decide +kernel
theorem dX7_faulty_39 : decode cX7_faulty 39 = .ok (.putfield 197, 3) := by decide +kernel
theorem dX7_faulty_42 : decode cX7_faulty 42 = .ok (.aload_n 0, 1) := by decide +kernel
theorem dX7_faulty_43 : decode cX7_faulty 43 = .ok (.getfield 197, 3) := by decide +kernel
theorem dX7_faulty_46 : decode cX7_faulty 46 = .ok (.ifCond .le 7, 3) := by decide +kernel
theorem dX7_faulty_49 : decode cX7_faulty 49 = .ok (.iload_n 2, 1) := by decide +kernel
theorem dX7_faulty_50 : decode cX7_faulty 50 = .ok (.goto 4, 3) := by decide +kernel
theorem dX7_faulty_53 : decode cX7_faulty 53 = .ok (.iload_n 1, 1) := by decide +kernel
theorem dX7_faulty_54 : decode cX7_faulty 54 = .ok (.istore_n 1, 1) := by decide +kernel
theorem dX7_faulty_55 : decode cX7_faulty 55 = .ok (.goto (-43), 3) := by decide +kernel
theorem dX7_faulty_58 : decode cX7_faulty 58 = .ok (.aload_n 0, 1) := by decide +kernel
theorem dX7_faulty_59 : decode cX7_faulty 59 = .ok (.invokevirtual 168, 3) := by decide +kernel
theorem dX7_faulty_62 : decode cX7_faulty 62 = .ok (.iload_n 1, 1) := by decide +kernel
theorem dX7_faulty_63 : decode cX7_faulty 63 = .ok (.ireturn, 1) := by decide +kernel
theorem dX7_fault_0 : decode cX7_fault 0 = .ok (.iload_n 1, 1) := by decide +kernel
theorem dX7_fault_1 : decode cX7_fault 1 = .ok (.iconst 0, 1) := by decide +kernel
theorem dX7_fault_2 : decode cX7_fault 2 = .ok (.iconst 1, 1) := by decide +kernel
theorem dX7_fault_3 : decode cX7_fault 3 = .ok (.invokestatic 29, 3) := by decide +kernel
theorem dX7_fault_6 : decode cX7_fault 6 = .ok (.ifCond .ne 6, 3) := by decide +kernel
theorem dX7_fault_9 : decode cX7_fault 9 = .ok (.ldc 33, 2) := by decide +kernel
theorem dX7_fault_11 : decode cX7_fault 11 = .ok (.ireturn, 1) := by decide +kernel
theorem dX7_fault_12 : decode cX7_fault 12 = .ok (.aload_n 0, 1) := by decide +kernel
theorem dX7_fault_13 : decode cX7_fault 13 = .ok (.invokevirtual 200, 3) := by decide +kernel
theorem dX7_fault_16 : decode cX7_fault 16 = .ok (.istore_n 2, 1) := by decide +kernel
theorem dX7_fault_17 : decode cX7_fault 17 = .ok (.iload_n 2, 1) := by decide +kernel
theorem dX7_fault_18 : decode cX7_fault 18 = .ok (.ldc 151, 2) := by decide +kernel
theorem dX7_fault_20 : decode cX7_fault 20 = .ok (.if_icmp .eq 7, 3) := by decide +kernel
theorem dX7_fault_23 : decode cX7_fault 23 = .ok (.iload_n 1, 1) := by decide +kernel
theorem dX7_fault_24 : decode cX7_fault 24 = .ok (.ifCond .ne 7, 3) := by decide +kernel
theorem dX7_fault_27 : decode cX7_fault 27 = .ok (.iload_n 2, 1) := by decide +kernel
theorem dX7_fault_28 : decode cX7_fault 28 = .ok (.goto 7, 3) := by decide +kernel
theorem dX7_fault_31 : decode cX7_fault 31 = .ok (.aload_n 0, 1) := by decide +kernel
theorem dX7_fault_32 : decode cX7_fault 32 = .ok (.getfield 197, 3) := by decide +kernel
theorem dX7_fault_35 : decode cX7_fault 35 = .ok (.ireturn, 1) := by decide +kernel
theorem dX7_play_0 : decode cX7_play 0 = .ok (.aload_n 0, 1) := by decide +kernel
theorem dX7_play_1 : decode cX7_play 1 = .ok (.invokevirtual 200, 3) := by decide +kernel
theorem dX7_play_4 : decode cX7_play 4 = .ok (.ldc 151, 2) := by decide +kernel
theorem dX7_play_6 : decode cX7_play 6 = .ok (.if_icmp .eq 6, 3) := by decide +kernel
theorem dX7_play_9 : decode cX7_play 9 = .ok (.ldc 105, 2) := by decide +kernel
theorem dX7_play_11 : decode cX7_play 11 = .ok (.ireturn, 1) := by decide +kernel
theorem dX7_play_12 : decode cX7_play 12 = .ok (.aload_n 0, 1) := by decide +kernel
theorem dX7_play_13 : decode cX7_play 13 = .ok (.invokevirtual 124, 3) := by decide +kernel
theorem dX7_play_16 : decode cX7_play 16 = .ok (.iconst 0, 1) := by decide +kernel
theorem dX7_play_17 : decode cX7_play 17 = .ok (.istore_n 1, 1) := by decide +kernel
theorem dX7_play_18 : decode cX7_play 18 = .ok (.aload_n 0, 1) := by decide +kernel
theorem dX7_play_19 : decode cX7_play 19 = .ok (.iconst 0, 1) := by decide +kernel
theorem dX7_play_20 : decode cX7_play 20 = .ok (.putfield 174, 3) := by decide +kernel
theorem dX7_play_23 : decode cX7_play 23 = .ok (.aload_n 0, 1) := by decide +kernel
theorem dX7_play_24 : decode cX7_play 24 = .ok (.getfield 174, 3) := by decide +kernel
theorem dX7_play_27 : decode cX7_play 27 = .ok (.aload_n 0, 1) := by decide +kernel
theorem dX7_play_28 : decode cX7_play 28 = .ok (.getfield 171, 3) := by decide +kernel
theorem dX7_play_31 : decode cX7_play 31 = .ok (.if_icmp .ge 21, 3) := by decide +kernel
theorem dX7_play_34 : decode cX7_play 34 = .ok (.iload_n 1, 1) := by decide +kernel
theorem dX7_play_35 : decode cX7_play 35 = .ok (.aload_n 0, 1) := by decide +kernel
theorem dX7_play_36 : decode cX7_play 36 = .ok (.invokevirtual 194, 3) := by decide +kernel
theorem dX7_play_39 : decode cX7_play 39 = .ok (.ifCond .ne 7, 3) := by decide +kernel
theorem dX7_play_42 : decode cX7_play 42 = .ok (.iconst 1, 1) := by decide +kernel
theorem dX7_play_43 : decode cX7_play 43 = .ok (.goto 4, 3) := by decide +kernel
theorem dX7_play_46 : decode cX7_play 46 = .ok (.iconst 0, 1) := by decide +kernel
theorem dX7_play_47 : decode cX7_play 47 = .ok (.iadd, 1) := by decide +kernel
theorem dX7_play_48 : decode cX7_play 48 = .ok (.istore_n 1, 1) := by decide +kernel
theorem dX7_play_49 : decode cX7_play 49 = .ok (.goto (-26), 3) := by decide +kernel
theorem dX7_play_52 : decode cX7_play 52 = .ok (.aload_n 0, 1) := by decide +kernel
theorem dX7_play_53 : decode cX7_play 53 = .ok (.iload_n 1, 1) := by decide +kernel
theorem dX7_play_54 : decode cX7_play 54 = .ok (.invokevirtual 127, 3) := by decide +kernel
theorem dX7_play_57 : decode cX7_play 57 = .ok (.ireturn, 1) := by decide +kernel
end
section
/-! a judgement for method bodies over a fixed layout of cells -/
/-- the tables' words that a callee keeps -/
def lw_g : List Cond := lw_tbl.filter goodWord
theorem lw_gm {w : Cond} {i : Nat} (h : lw_tbl[i]? = some w) (hg : goodWord w = true) : w ∈ lw_g := List.mem_filter.mpr ⟨List.mem_of_getElem? h, hg⟩
/-- a layout: addresses by group and place, classes and slots, array classes, which cells are its own -/
abbrev kG : Type := (Nat → Nat → Nat) × va_G × (Nat → ClassId) × (Nat → Prop)
abbrev k_tys (Γ : kG) : List (ClassId × FieldType) := [(Γ.2.2.1 0, .int), (Γ.2.2.1 1, .char), (Γ.2.2.1 2, .object RX2), (Γ.2.2.1 3, .object RX0), (Γ.2.2.1 4, .object RX5), (Γ.2.2.1 5, .object RX3)]
def k_wl {μ : Type} (Γ : kG) (K : Nat × (μ → Nat → Nat → va_E)) (x : μ) : va_W := (List.range K.1).map fun q => (Γ.1 (q / 44) (q % 44), K.2 x (q / 44) (q % 44))
def k_least : Nat → Int32 := fun j => if j = 0 then 10 else if j = 4 then 4 else if j = 10 then 1 else if j = 11 then 1 else 0
def k_great : Nat → Int32 := fun j => if j = 0 then 1000 else if j = 1 then 100 else if j = 2 then 300 else if j = 3 then 100 else if j = 4 then 100 else if j = 5 then 200 else if j = 6 then 100 else if j = 7 then 2000 else if j = 8 then 50 else if j = 9 then 100 else if j = 10 then 60 else if j = 11 then 100 else 3
/-- the class's two arrays of bounds, outside the layout's cells -/
def k_st (Γ : kG) (U : State) (H : Heap) : Prop := (∃ t : Nat, va_Z "SeaMill" "LEAST_SETTINGS" "[I" (.ref t) Γ.2.2.2 U H ∧ va_T .int t 13 (fun j => .int (k_least j)) Γ.2.2.2 U H) ∧ ∃ t : Nat, va_Z "SeaMill" "GREATEST_SETTINGS" "[I" (.ref t) Γ.2.2.2 U H ∧ va_T .int t 13 (fun j => .int (k_great j)) Γ.2.2.2 U H
/-- the cells are apart and the layout's own -/
def k_L {μ : Type} (Γ : kG) (K : Nat × (μ → Nat → Nat → va_E)) : Prop := ∀ x : μ, va_D Γ.2.2.2 (k_wl Γ K x)
/-- the links of nest mates' private members -/
def k_nw (U : State) : Prop := va_Nw (.methodLinkNest RX3 110 yX6_within "SeaMill") U ∧ va_Nw (.methodLinkNest RX3 269 yX6_quotient "SeaMill") U ∧ va_Nw (.methodLinkNest RX4 56 yX6_within "SeaMill") U ∧ va_Nw (.fieldLinkNest RX3 114 "SeaMill" "LEAST_SETTINGS" "[I" "SeaMill") U ∧ va_Nw (.fieldLinkNest RX3 117 "SeaMill" "GREATEST_SETTINGS" "[I" "SeaMill") U
theorem k_nw.warm {s U : State} (hW : s.WarmedH U.vm) (h : k_nw s) : k_nw U := ⟨h.1.warmM hW, h.2.1.warmM hW, h.2.2.1.warmM hW, h.2.2.2.1.warmF hW, h.2.2.2.2.warmF hW⟩
theorem k_nw.same {u U : State} (hW : u.vm = U.vm) (h : k_nw u) : k_nw U := ⟨h.1.same rfl hW, h.2.1.same rfl hW, h.2.2.1.same rfl hW, h.2.2.2.1.same rfl hW, h.2.2.2.2.same rfl hW⟩
/-- what holds in a method's body all the time -/
def k_C (Γ : kG) (p : Program) (R : Room) (s : State) (m : MethodId) (args : Array Value) (meth : Method) (c : Code) (cc : ByteArray) (nL : Nat) (own : String) (rm : Room) : Prop :=
  p.tables.exec = Jvm.exec ∧ c.code = cc ∧ c.maxLocals = nL ∧ s.vm.findClass own = some m.cls ∧ meth.locks = false ∧ (∀ w ∈ lw_g, w.before args s = true) ∧ va_K Γ.2.1 vwCl (k_tys Γ) s ∧ k_st Γ s s.heap ∧ R = rm ∧ k_nw s
def k_q {μ : Type} (rt : Bool) (Γ : kG) (K : Nat × (μ → Nat → Nat → va_E)) (x' : μ) (r : Int32) : Array Value → State → Outcome → State → Prop := fun _ st o t => o = .returned (if rt then some (.int r) else none) ∧ va_P Γ.2.1 vwCl (k_wl Γ K x') t.heap ∧ va_F Γ.2.2.2 st t
def k_w {μ : Type} (Γ : kG) (K : Nat × (μ → Nat → Nat → va_E)) (x : μ) : State → Prop := fun U => va_P Γ.2.1 vwCl (k_wl Γ K x) U.heap ∧ va_K Γ.2.1 vwCl (k_tys Γ) U ∧ k_st Γ U U.heap ∧ k_nw U
/-- the judgement: with cells x, locals lv, stack st at pc, the body answers what o says -/
def Sm {μ : Type} (Γ : kG) (K : Nat × (μ → Nat → Nat → va_E)) (p : Program) (l : Launch) (e : Env) (R : Room) (s : State) (m : MethodId) (args : Array Value) (below : List Frame) (meth : Method) (c : Code) (nL : Nat) (rt : Bool) (x : μ) (lv : List (Nat × Value)) (st : List Value) (pc : Nat) (o : Option (Int32 × μ)) : Prop :=
  ∀ (r : Int32) (x' : μ), o = some (r, x') → ∀ (H : Heap) (locs : List Loc) (ls : Array Slot), va_P Γ.2.1 vwCl (k_wl Γ K x) H → va_S Γ.2.2.2 s.heap H locs → lv_has ls nL lv → W p l e R s m args below meth c H locs 0 0 (MQ below (k_q rt Γ K x' r) args s 0 0 Γ.2.2.2) (F0 m pc ls st)
/-- a method's contract: wherever o answers, the method does -/
def CT {μ : Type} (l : Launch) (Γ : kG) (K : Nat × (μ → Nat → Nat → va_E)) (y : MethodName) (cc : ByteArray) (nL : Nat) (ret : Option FieldType) (rm : Room) (As : List Value) (x : μ) (o : Option (Int32 × μ)) : Prop :=
  ∀ (r : Int32) (x' : μ), o = some (r, x') → Met l y (Cond.code y cc nL ret :: lw_g) rm (va_Pc As (k_w Γ K x)) (k_q ret.isSome Γ K x' r) 0 0 Γ.2.2.2
def k_let {α : Type} {β : Type} (a : α) (f : α → β) : β := f a
def bd {μ : Type} {ν : Type} (o : Option (Int32 × μ)) (k : Int32 → μ → Option (Int32 × ν)) : Option (Int32 × ν) := match o with
  | none => none
  | some q => k q.1 q.2
theorem bd_some {μ : Type} {ν : Type} {o : Option (Int32 × μ)} {k : Int32 → μ → Option (Int32 × ν)} {q : Int32 × ν} (h : bd o k = some q) : ∃ r x, o = some (r, x) ∧ k r x = some q := by
  cases o with
  | none => cases h
  | some z => exact ⟨z.1, z.2, rfl, h⟩
theorem tbl_good : lw_g.all goodWord = true := List.all_eq_true.mpr fun _ hw => (List.mem_filter.mp hw).2
theorem tbl_in {y : MethodName} {cc : ByteArray} {nL : Nat} {ret : Option FieldType} (h : Cond.code y cc nL ret ∈ lw_g) : GoodIn lw_g (Cond.code y cc nL ret :: lw_g) := by
  intro w hw
  have hw : w ∈ lw_g := by
    rcases List.mem_cons.mp hw with rfl | q
    · exact h
    · exact q
  exact ⟨hw, good_of_word (List.all_eq_true.mp tbl_good w hw)⟩
theorem k_wl_at {μ : Type} {Γ : kG} {K : Nat × (μ → Nat → Nat → va_E)} {x : μ} {i j : Nat} (h : 44 * i + j < K.1 ∧ j < 44) : (k_wl Γ K x)[44 * i + j]? = some (Γ.1 i j, K.2 x i j) := by
  have h1 : (44 * i + j) / 44 = i := by omega
  have h2 : (44 * i + j) % 44 = j := by omega
  unfold k_wl
  rw [List.getElem?_map, List.getElem?_range h.1]
  simp only [Option.map_some, h1, h2]
theorem k_wl_set {μ : Type} {Γ : kG} {K : Nat × (μ → Nat → Nat → va_E)} {x x1 : μ} {i j : Nat} {E : va_E} (h : 44 * i + j < K.1 ∧ j < 44) (hs : ∀ i' j', K.2 x1 i' j' = if i' = i ∧ j' = j then E else K.2 x i' j') : (k_wl Γ K x).set (44 * i + j) (Γ.1 i j, E) = k_wl Γ K x1 := by
  apply List.ext_getElem?
  intro q
  by_cases hq : q < K.1
  · have e1 : (k_wl Γ K x1)[q]? = some (Γ.1 (q / 44) (q % 44), K.2 x1 (q / 44) (q % 44)) := by
      unfold k_wl
      rw [List.getElem?_map, List.getElem?_range hq]
      rfl
    have e0 : (k_wl Γ K x)[q]? = some (Γ.1 (q / 44) (q % 44), K.2 x (q / 44) (q % 44)) := by
      unfold k_wl
      rw [List.getElem?_map, List.getElem?_range hq]
      rfl
    rw [e1, hs]
    by_cases hc : q = 44 * i + j
    · have h1 : q / 44 = i := by omega
      have h2 : q % 44 = j := by omega
      rw [if_pos ⟨h1, h2⟩, h1, h2]
      subst hc
      rw [List.getElem?_set_self (by unfold k_wl; simp; exact h.1)]
    · rw [List.getElem?_set_ne (fun z => hc z.symm), e0, if_neg]
      rintro ⟨h1, h2⟩
      omega
  · have l0 : (k_wl Γ K x).length = K.1 := by unfold k_wl; simp
    have l1 : (k_wl Γ K x1).length = K.1 := by unfold k_wl; simp
    rw [List.getElem?_eq_none (by rw [List.length_set, l0]; omega), List.getElem?_eq_none (by rw [l1]; omega)]
theorem k_st.moved {Γ : kG} {u U : State} {H : Heap} (hvm : u.vm.Alike U.vm) (h : k_st Γ u H) : k_st Γ U H := by
  obtain ⟨⟨t, h1, h2⟩, ⟨t', h3, h4⟩⟩ := h
  exact ⟨⟨t, h1.moved hvm, h2.moved hvm⟩, ⟨t', h3.moved hvm, h4.moved hvm⟩⟩
theorem k_st.kept {Γ : kG} {U : State} {H H1 : Heap} (h : k_st Γ U H) (hq : ∀ a : Nat, a < H.size → ¬ Γ.2.2.2 a → H1[a]? = H[a]?) : k_st Γ U H1 := by
  obtain ⟨⟨t, h1, h2⟩, ⟨t', h3, h4⟩⟩ := h
  exact ⟨⟨t, h1.kept hq, h2.kept hq⟩, ⟨t', h3.kept hq, h4.kept hq⟩⟩

section KC
variable {μ : Type} {Γ : kG} {K : Nat × (μ → Nat → Nat → va_E)} {p : Program} {l : Launch} {e : Env} {R : Room} {s : State} {m : MethodId} {args : Array Value} {below : List Frame} {meth : Method} {c : Code} {cc : ByteArray} {nL : Nat} {own : String} {rm : Room} {rt : Bool} {x : μ} {lv : List (Nat × Value)} {st : List Value} {pc pc' : Nat} {o o1 o2 : Option (Int32 × μ)}

theorem k_meth {y : MethodName} {ret : Option FieldType} {As : List Value} (hy : plainName y.cls = true) (hown : own = y.cls) (hAs : (lg_sl As).length ≤ nL)
    (body : ∀ (p : Program) (e : Env) (R : Room) (s : State) (m : MethodId) (args : Array Value) (below : List Frame) (meth : Method) (c : Code), k_C Γ p R s m args meth c cc nL own rm → meth.sig.returnType = ret → Sm Γ K p l e R s m args below meth c nL ret.isSome x (lv_args 0 As) [] 0 o) : CT l Γ K y cc nL ret rm As x o := by
  intro r x' ho
  refine Met.ofW (cc := cc) (maxL := nL) (ret := ret) hy rfl ?_
  intro p e s m args below meth c s₁ B hml hv
  obtain ⟨rfl, hP, hK, hst, hnw⟩ := hv
  have hts := atoms_spec (ws := Cond.code y cc nL ret :: lw_g) B.pre
  have hfc : s.vm.findClass own = some m.cls := by rw [hown]; exact findClass_of_methodNamed B.named
  have C : k_C Γ p rm s m As.toArray meth c cc nL own rm := ⟨B.exec, B.bytes, hml, hfc, B.notSynchronized, fun w hw => hts w (List.mem_cons_of_mem _ hw), hK, hst, rfl, hnw⟩
  rw [lg_entry_eq]
  exact body p e rm s m As.toArray below meth c C B.returns r x' ho s.heap [] _ hP va_S.rf (lv_entry As hAs)
theorem k_none : Sm Γ K p l e R s m args below meth c nL rt x lv st pc none := fun _ _ h => by cases h
theorem k_gd {P : Prop} [Decidable P] (k : P → Sm Γ K p l e R s m args below meth c nL rt x lv st pc o) : Sm Γ K p l e R s m args below meth c nL rt x lv st pc (if P then o else none) := by
  by_cases h : P
  · rw [if_pos h]; exact k h
  · rw [if_neg h]; exact k_none
theorem k_ite {P : Prop} [Decidable P] (k1 : P → Sm Γ K p l e R s m args below meth c nL rt x lv st pc o1) (k2 : ¬ P → Sm Γ K p l e R s m args below meth c nL rt x lv st pc o2) : Sm Γ K p l e R s m args below meth c nL rt x lv st pc (if P then o1 else o2) := by
  by_cases h : P
  · rw [if_pos h]; exact k1 h
  · rw [if_neg h]; exact k2 h
theorem k_sub {lv' : List (Nat × Value)} (ks : List Nat) (hl : lv_pick lv ks = lv') (k : Sm Γ K p l e R s m args below meth c nL rt x lv' st pc o) : Sm Γ K p l e R s m args below meth c nL rt x lv st pc o :=
  fun r x' ho H locs ls hP hS h => k r x' ho H locs ls hP hS (lv_sub h ks hl)
theorem k_topi {v : Int32} {f : Int32 → Option (Int32 × μ)} (k : ∀ v : Int32, Sm Γ K p l e R s m args below meth c nL rt x lv (.int v :: st) pc (f v)) : Sm Γ K p l e R s m args below meth c nL rt x lv (.int v :: st) pc (k_let v f) := k v
theorem k_topl {v : Int64} {f : Int64 → Option (Int32 × μ)} (k : ∀ v : Int64, Sm Γ K p l e R s m args below meth c nL rt x lv (.long v :: st) pc (f v)) : Sm Γ K p l e R s m args below meth c nL rt x lv (.long v :: st) pc (k_let v f) := k v

theorem k_iconst (C : k_C Γ p R s m args meth c cc nL own rm) {n : Int} {v : Int32} (hd : decode cc pc = .ok (.iconst n, 1)) (hv : Int32.ofInt n = v) (hpc : pc + 1 = pc') (k : Sm Γ K p l e R s m args below meth c nL rt x lv (.int v :: st) pc' o) : Sm Γ K p l e R s m args below meth c nL rt x lv st pc o := by
  subst hpc
  intro r x' ho H locs ls hP hS hl
  exact lv_iconst C.1 C.2.1 hd hv (k r x' ho H locs ls hP hS hl)
theorem k_bipush (C : k_C Γ p R s m args meth c cc nL own rm) {n : Int} {v : Int32} (hd : decode cc pc = .ok (.bipush n, 2)) (hv : (Int8.ofInt n).toInt32 = v) (hpc : pc + 2 = pc') (k : Sm Γ K p l e R s m args below meth c nL rt x lv (.int v :: st) pc' o) : Sm Γ K p l e R s m args below meth c nL rt x lv st pc o := by
  subst hpc
  intro r x' ho H locs ls hP hS hl
  exact lv_bipush C.1 C.2.1 hd hv (k r x' ho H locs ls hP hS hl)
theorem k_sipush (C : k_C Γ p R s m args meth c cc nL own rm) {n : Int} {v : Int32} (hd : decode cc pc = .ok (.sipush n, 3)) (hv : (Int16.ofInt n).toInt32 = v) (hpc : pc + 3 = pc') (k : Sm Γ K p l e R s m args below meth c nL rt x lv (.int v :: st) pc' o) : Sm Γ K p l e R s m args below meth c nL rt x lv st pc o := by
  subst hpc
  intro r x' ho H locs ls hP hS hl
  exact lv_sipush C.1 C.2.1 hd hv (k r x' ho H locs ls hP hS hl)
theorem k_ldc (C : k_C Γ p R s m args meth c cc nL own rm) {index : Nat} {v : Int32} (hd : decode cc pc = .ok (.ldc index, 2)) (hw : Cond.constant own index v ∈ lw_g) (hpc : pc + 2 = pc') (k : Sm Γ K p l e R s m args below meth c nL rt x lv (.int v :: st) pc' o) : Sm Γ K p l e R s m args below meth c nL rt x lv st pc o := by
  subst hpc
  intro r x' ho H locs ls hP hS hl
  exact lv_ldc C.1 C.2.1 C.2.2.2.1 (C.2.2.2.2.2.1 _ hw) hd (k r x' ho H locs ls hP hS hl)
theorem k_ldc2 (C : k_C Γ p R s m args meth c cc nL own rm) {index : Nat} {v : Int64} (hd : decode cc pc = .ok (.ldc2_w index, 3)) (hw : Cond.constantLong own index v ∈ lw_g) (hpc : pc + 3 = pc') (k : Sm Γ K p l e R s m args below meth c nL rt x lv (.long v :: st) pc' o) : Sm Γ K p l e R s m args below meth c nL rt x lv st pc o := by
  subst hpc
  intro r x' ho H locs ls hP hS hl
  exact lv_ldc2 C.1 C.2.1 C.2.2.2.1 (C.2.2.2.2.2.1 _ hw) hd (k r x' ho H locs ls hP hS hl)
theorem k_iload_n (C : k_C Γ p R s m args meth c cc nL own rm) {k0 : Fin 4} {i : Nat} {v : Int32} (q : Nat) (hd : decode cc pc = .ok (.iload_n k0, 1)) (hi : (k0 : Nat) = i) (hq : lv[q]? = some (i, .int v)) (hpc : pc + 1 = pc') (k : Sm Γ K p l e R s m args below meth c nL rt x lv (.int v :: st) pc' o) : Sm Γ K p l e R s m args below meth c nL rt x lv st pc o := by
  subst hpc
  intro r x' ho H locs ls hP hS hl
  exact lv_iload_n C.1 C.2.1 hd hi (lv_at hl q hq) (k r x' ho H locs ls hP hS hl)
theorem k_iload (C : k_C Γ p R s m args meth c cc nL own rm) {i : Nat} {v : Int32} (q : Nat) (hd : decode cc pc = .ok (.iload i, 2)) (hq : lv[q]? = some (i, .int v)) (hpc : pc + 2 = pc') (k : Sm Γ K p l e R s m args below meth c nL rt x lv (.int v :: st) pc' o) : Sm Γ K p l e R s m args below meth c nL rt x lv st pc o := by
  subst hpc
  intro r x' ho H locs ls hP hS hl
  exact lv_iload C.1 C.2.1 hd (lv_at hl q hq) (k r x' ho H locs ls hP hS hl)
theorem k_istore_n (C : k_C Γ p R s m args meth c cc nL own rm) {k0 : Fin 4} {i : Nat} {v : Int32} {lv' : List (Nat × Value)} (hd : decode cc pc = .ok (.istore_n k0, 1)) (hi : (k0 : Nat) = i) (hn : i < nL) (hl' : (i, Value.int v) :: lv.filter (fun q => !(q.1 == i) && !(q.1 + 1 == i && q.2.category == 2)) = lv') (hpc : pc + 1 = pc') (k : Sm Γ K p l e R s m args below meth c nL rt x lv' st pc' o) : Sm Γ K p l e R s m args below meth c nL rt x lv (.int v :: st) pc o := by
  subst hpc
  intro r x' ho H locs ls hP hS hl
  exact lv_istore_n C.1 C.2.1 hd hi hl hn hl' (fun ls hl => k r x' ho H locs ls hP hS hl)
theorem k_istore (C : k_C Γ p R s m args meth c cc nL own rm) {i : Nat} {v : Int32} {lv' : List (Nat × Value)} (hd : decode cc pc = .ok (.istore i, 2)) (hn : i < nL) (hl' : (i, Value.int v) :: lv.filter (fun q => !(q.1 == i) && !(q.1 + 1 == i && q.2.category == 2)) = lv') (hpc : pc + 2 = pc') (k : Sm Γ K p l e R s m args below meth c nL rt x lv' st pc' o) : Sm Γ K p l e R s m args below meth c nL rt x lv (.int v :: st) pc o := by
  subst hpc
  intro r x' ho H locs ls hP hS hl
  exact lv_istore C.1 C.2.1 hd hl hn hl' (fun ls hl => k r x' ho H locs ls hP hS hl)
theorem k_lload_n (C : k_C Γ p R s m args meth c cc nL own rm) {k0 : Fin 4} {i : Nat} {v : Int64} (q : Nat) (hd : decode cc pc = .ok (.lload_n k0, 1)) (hi : (k0 : Nat) = i) (hq : lv[q]? = some (i, .long v)) (hpc : pc + 1 = pc') (k : Sm Γ K p l e R s m args below meth c nL rt x lv (.long v :: st) pc' o) : Sm Γ K p l e R s m args below meth c nL rt x lv st pc o := by
  subst hpc
  intro r x' ho H locs ls hP hS hl
  exact lv_lload_n C.1 C.2.1 hd hi (lv_at hl q hq) (k r x' ho H locs ls hP hS hl)
theorem k_lload (C : k_C Γ p R s m args meth c cc nL own rm) {i : Nat} {v : Int64} (q : Nat) (hd : decode cc pc = .ok (.lload i, 2)) (hq : lv[q]? = some (i, .long v)) (hpc : pc + 2 = pc') (k : Sm Γ K p l e R s m args below meth c nL rt x lv (.long v :: st) pc' o) : Sm Γ K p l e R s m args below meth c nL rt x lv st pc o := by
  subst hpc
  intro r x' ho H locs ls hP hS hl
  exact lv_lload C.1 C.2.1 hd (lv_at hl q hq) (k r x' ho H locs ls hP hS hl)
theorem k_lstore_n (C : k_C Γ p R s m args meth c cc nL own rm) {k0 : Fin 4} {i : Nat} {v : Int64} {lv' : List (Nat × Value)} (hd : decode cc pc = .ok (.lstore_n k0, 1)) (hi : (k0 : Nat) = i) (hn : i + 1 < nL) (hl' : (i, Value.long v) :: lv.filter (fun q => !(q.1 == i) && (!(q.1 == i + 1) && !(q.1 + 1 == i && q.2.category == 2))) = lv') (hpc : pc + 1 = pc') (k : Sm Γ K p l e R s m args below meth c nL rt x lv' st pc' o) : Sm Γ K p l e R s m args below meth c nL rt x lv (.long v :: st) pc o := by
  subst hpc
  intro r x' ho H locs ls hP hS hl
  exact lv_lstore_n C.1 C.2.1 hd hi hl hn hl' (fun ls hl => k r x' ho H locs ls hP hS hl)
theorem k_lstore (C : k_C Γ p R s m args meth c cc nL own rm) {i : Nat} {v : Int64} {lv' : List (Nat × Value)} (hd : decode cc pc = .ok (.lstore i, 2)) (hn : i + 1 < nL) (hl' : (i, Value.long v) :: lv.filter (fun q => !(q.1 == i) && (!(q.1 == i + 1) && !(q.1 + 1 == i && q.2.category == 2))) = lv') (hpc : pc + 2 = pc') (k : Sm Γ K p l e R s m args below meth c nL rt x lv' st pc' o) : Sm Γ K p l e R s m args below meth c nL rt x lv (.long v :: st) pc o := by
  subst hpc
  intro r x' ho H locs ls hP hS hl
  exact lv_lstore C.1 C.2.1 hd hl hn hl' (fun ls hl => k r x' ho H locs ls hP hS hl)
theorem k_aload_n (C : k_C Γ p R s m args meth c cc nL own rm) {k0 : Fin 4} {i : Nat} {v : Nat} (q : Nat) (hd : decode cc pc = .ok (.aload_n k0, 1)) (hi : (k0 : Nat) = i) (hq : lv[q]? = some (i, .ref v)) (hpc : pc + 1 = pc') (k : Sm Γ K p l e R s m args below meth c nL rt x lv (.ref v :: st) pc' o) : Sm Γ K p l e R s m args below meth c nL rt x lv st pc o := by
  subst hpc
  intro r x' ho H locs ls hP hS hl
  exact lv_aload_n C.1 C.2.1 hd hi (lv_at hl q hq) (k r x' ho H locs ls hP hS hl)
theorem k_aload (C : k_C Γ p R s m args meth c cc nL own rm) {i : Nat} {v : Nat} (q : Nat) (hd : decode cc pc = .ok (.aload i, 2)) (hq : lv[q]? = some (i, .ref v)) (hpc : pc + 2 = pc') (k : Sm Γ K p l e R s m args below meth c nL rt x lv (.ref v :: st) pc' o) : Sm Γ K p l e R s m args below meth c nL rt x lv st pc o := by
  subst hpc
  intro r x' ho H locs ls hP hS hl
  exact lv_aload C.1 C.2.1 hd (lv_at hl q hq) (k r x' ho H locs ls hP hS hl)
theorem k_astore_n (C : k_C Γ p R s m args meth c cc nL own rm) {k0 : Fin 4} {i : Nat} {v : Nat} {lv' : List (Nat × Value)} (hd : decode cc pc = .ok (.astore_n k0, 1)) (hi : (k0 : Nat) = i) (hn : i < nL) (hl' : (i, Value.ref v) :: lv.filter (fun q => !(q.1 == i) && !(q.1 + 1 == i && q.2.category == 2)) = lv') (hpc : pc + 1 = pc') (k : Sm Γ K p l e R s m args below meth c nL rt x lv' st pc' o) : Sm Γ K p l e R s m args below meth c nL rt x lv (.ref v :: st) pc o := by
  subst hpc
  intro r x' ho H locs ls hP hS hl
  exact lv_astore_n C.1 C.2.1 hd hi hl hn hl' (fun ls hl => k r x' ho H locs ls hP hS hl)
theorem k_astore (C : k_C Γ p R s m args meth c cc nL own rm) {i : Nat} {v : Nat} {lv' : List (Nat × Value)} (hd : decode cc pc = .ok (.astore i, 2)) (hn : i < nL) (hl' : (i, Value.ref v) :: lv.filter (fun q => !(q.1 == i) && !(q.1 + 1 == i && q.2.category == 2)) = lv') (hpc : pc + 2 = pc') (k : Sm Γ K p l e R s m args below meth c nL rt x lv' st pc' o) : Sm Γ K p l e R s m args below meth c nL rt x lv (.ref v :: st) pc o := by
  subst hpc
  intro r x' ho H locs ls hP hS hl
  exact lv_astore C.1 C.2.1 hd hl hn hl' (fun ls hl => k r x' ho H locs ls hP hS hl)
theorem k_iinc (C : k_C Γ p R s m args meth c cc nL own rm) {i q : Nat} {n : Int} {a v : Int32} {lv' : List (Nat × Value)} {f : Int32 → Option (Int32 × μ)} (hd : decode cc pc = .ok (.iinc i n, 3)) (hq : lv[q]? = some (i, .int a)) (hv : Int32.ofInt n = v) (hn : i < nL) (hpc : pc + 3 = pc') (hl' : ∀ z : Int32, (i, Value.int z) :: lv.filter (fun q => !(q.1 == i) && !(q.1 + 1 == i && q.2.category == 2)) = (i, Value.int z) :: lv') (k : ∀ z : Int32, Sm Γ K p l e R s m args below meth c nL rt x ((i, .int z) :: lv') st pc' (f z)) : Sm Γ K p l e R s m args below meth c nL rt x lv st pc (k_let (a + v) f) := by
  subst hpc
  subst hv
  intro r x' ho H locs ls hP hS hl
  exact lv_iinc C.1 C.2.1 hd hl hq rfl hn (hl' _) (fun ls hl => k _ r x' ho H locs ls hP hS hl)
theorem k_iadd (C : k_C Γ p R s m args meth c cc nL own rm) {a b : Int32} (hd : decode cc pc = .ok (.iadd, 1)) (hpc : pc + 1 = pc') (k : Sm Γ K p l e R s m args below meth c nL rt x lv (.int (a + b) :: st) pc' o) : Sm Γ K p l e R s m args below meth c nL rt x lv (.int b :: .int a :: st) pc o := by
  subst hpc
  intro r x' ho H locs ls hP hS hl
  exact lv_iadd C.1 C.2.1 hd (k r x' ho H locs ls hP hS hl)
theorem k_isub (C : k_C Γ p R s m args meth c cc nL own rm) {a b : Int32} (hd : decode cc pc = .ok (.isub, 1)) (hpc : pc + 1 = pc') (k : Sm Γ K p l e R s m args below meth c nL rt x lv (.int (a - b) :: st) pc' o) : Sm Γ K p l e R s m args below meth c nL rt x lv (.int b :: .int a :: st) pc o := by
  subst hpc
  intro r x' ho H locs ls hP hS hl
  exact lv_isub C.1 C.2.1 hd (k r x' ho H locs ls hP hS hl)
theorem k_imul (C : k_C Γ p R s m args meth c cc nL own rm) {a b : Int32} (hd : decode cc pc = .ok (.imul, 1)) (hpc : pc + 1 = pc') (k : Sm Γ K p l e R s m args below meth c nL rt x lv (.int (a * b) :: st) pc' o) : Sm Γ K p l e R s m args below meth c nL rt x lv (.int b :: .int a :: st) pc o := by
  subst hpc
  intro r x' ho H locs ls hP hS hl
  exact lv_imul C.1 C.2.1 hd (k r x' ho H locs ls hP hS hl)
theorem k_iand (C : k_C Γ p R s m args meth c cc nL own rm) {a b : Int32} (hd : decode cc pc = .ok (.iand, 1)) (hpc : pc + 1 = pc') (k : Sm Γ K p l e R s m args below meth c nL rt x lv (.int (a &&& b) :: st) pc' o) : Sm Γ K p l e R s m args below meth c nL rt x lv (.int b :: .int a :: st) pc o := by
  subst hpc
  intro r x' ho H locs ls hP hS hl
  exact lv_iand C.1 C.2.1 hd (k r x' ho H locs ls hP hS hl)
theorem k_ladd (C : k_C Γ p R s m args meth c cc nL own rm) {a b : Int64} (hd : decode cc pc = .ok (.ladd, 1)) (hpc : pc + 1 = pc') (k : Sm Γ K p l e R s m args below meth c nL rt x lv (.long (a + b) :: st) pc' o) : Sm Γ K p l e R s m args below meth c nL rt x lv (.long b :: .long a :: st) pc o := by
  subst hpc
  intro r x' ho H locs ls hP hS hl
  exact lv_ladd C.1 C.2.1 hd (k r x' ho H locs ls hP hS hl)
theorem k_lsub (C : k_C Γ p R s m args meth c cc nL own rm) {a b : Int64} (hd : decode cc pc = .ok (.lsub, 1)) (hpc : pc + 1 = pc') (k : Sm Γ K p l e R s m args below meth c nL rt x lv (.long (a - b) :: st) pc' o) : Sm Γ K p l e R s m args below meth c nL rt x lv (.long b :: .long a :: st) pc o := by
  subst hpc
  intro r x' ho H locs ls hP hS hl
  exact lv_lsub C.1 C.2.1 hd (k r x' ho H locs ls hP hS hl)
theorem k_lmul (C : k_C Γ p R s m args meth c cc nL own rm) {a b : Int64} (hd : decode cc pc = .ok (.lmul, 1)) (hpc : pc + 1 = pc') (k : Sm Γ K p l e R s m args below meth c nL rt x lv (.long (a * b) :: st) pc' o) : Sm Γ K p l e R s m args below meth c nL rt x lv (.long b :: .long a :: st) pc o := by
  subst hpc
  intro r x' ho H locs ls hP hS hl
  exact lv_lmul C.1 C.2.1 hd (k r x' ho H locs ls hP hS hl)
theorem k_idivK (C : k_C Γ p R s m args meth c cc nL own rm) {a b : Int32} (hd : decode cc pc = .ok (.idiv, 1)) (hne : ¬ b = 0) (hpc : pc + 1 = pc') (k : Sm Γ K p l e R s m args below meth c nL rt x lv (.int (a / b) :: st) pc' o) : Sm Γ K p l e R s m args below meth c nL rt x lv (.int b :: .int a :: st) pc o := by
  subst hpc
  intro r x' ho H locs ls hP hS hl
  exact lv_idiv C.1 C.2.1 hd hne (k r x' ho H locs ls hP hS hl)
theorem k_idiv (C : k_C Γ p R s m args meth c cc nL own rm) {a b : Int32} (hd : decode cc pc = .ok (.idiv, 1)) (hpc : pc + 1 = pc') (k : Sm Γ K p l e R s m args below meth c nL rt x lv (.int (a / b) :: st) pc' o) : Sm Γ K p l e R s m args below meth c nL rt x lv (.int b :: .int a :: st) pc (if ¬ b = 0 then o else none) := k_gd fun h => k_idivK C hd h hpc k
theorem k_iremK (C : k_C Γ p R s m args meth c cc nL own rm) {a b : Int32} (hd : decode cc pc = .ok (.irem, 1)) (hne : ¬ b = 0) (hpc : pc + 1 = pc') (k : Sm Γ K p l e R s m args below meth c nL rt x lv (.int (a - a / b * b) :: st) pc' o) : Sm Γ K p l e R s m args below meth c nL rt x lv (.int b :: .int a :: st) pc o := by
  subst hpc
  intro r x' ho H locs ls hP hS hl
  exact lv_irem C.1 C.2.1 hd hne (k r x' ho H locs ls hP hS hl)
theorem k_irem (C : k_C Γ p R s m args meth c cc nL own rm) {a b : Int32} (hd : decode cc pc = .ok (.irem, 1)) (hpc : pc + 1 = pc') (k : Sm Γ K p l e R s m args below meth c nL rt x lv (.int (a - a / b * b) :: st) pc' o) : Sm Γ K p l e R s m args below meth c nL rt x lv (.int b :: .int a :: st) pc (if ¬ b = 0 then o else none) := k_gd fun h => k_iremK C hd h hpc k
theorem k_ldivK (C : k_C Γ p R s m args meth c cc nL own rm) {a b : Int64} (hd : decode cc pc = .ok (.ldiv, 1)) (hne : ¬ b = 0) (hpc : pc + 1 = pc') (k : Sm Γ K p l e R s m args below meth c nL rt x lv (.long (a / b) :: st) pc' o) : Sm Γ K p l e R s m args below meth c nL rt x lv (.long b :: .long a :: st) pc o := by
  subst hpc
  intro r x' ho H locs ls hP hS hl
  exact lv_ldiv C.1 C.2.1 hd hne (k r x' ho H locs ls hP hS hl)
theorem k_ineg (C : k_C Γ p R s m args meth c cc nL own rm) {a : Int32} (hd : decode cc pc = .ok (.ineg, 1)) (hpc : pc + 1 = pc') (k : Sm Γ K p l e R s m args below meth c nL rt x lv (.int (-a) :: st) pc' o) : Sm Γ K p l e R s m args below meth c nL rt x lv (.int a :: st) pc o := by
  subst hpc
  intro r x' ho H locs ls hP hS hl
  exact lv_ineg C.1 C.2.1 hd (k r x' ho H locs ls hP hS hl)
theorem k_i2l (C : k_C Γ p R s m args meth c cc nL own rm) {a : Int32} (hd : decode cc pc = .ok (.i2l, 1)) (hpc : pc + 1 = pc') (k : Sm Γ K p l e R s m args below meth c nL rt x lv (.long a.toInt64 :: st) pc' o) : Sm Γ K p l e R s m args below meth c nL rt x lv (.int a :: st) pc o := by
  subst hpc
  intro r x' ho H locs ls hP hS hl
  exact lv_i2l C.1 C.2.1 hd rfl (k r x' ho H locs ls hP hS hl)
theorem k_l2i (C : k_C Γ p R s m args meth c cc nL own rm) {a : Int64} (hd : decode cc pc = .ok (.l2i, 1)) (hpc : pc + 1 = pc') (k : Sm Γ K p l e R s m args below meth c nL rt x lv (.int a.toInt32 :: st) pc' o) : Sm Γ K p l e R s m args below meth c nL rt x lv (.long a :: st) pc o := by
  subst hpc
  intro r x' ho H locs ls hP hS hl
  exact lv_l2i C.1 C.2.1 hd rfl (k r x' ho H locs ls hP hS hl)
theorem k_i2c (C : k_C Γ p R s m args meth c cc nL own rm) {a : Int32} (hd : decode cc pc = .ok (.i2c, 1)) (hpc : pc + 1 = pc') (k : Sm Γ K p l e R s m args below meth c nL rt x lv (.int (a.toUInt32 % 65536).toInt32 :: st) pc' o) : Sm Γ K p l e R s m args below meth c nL rt x lv (.int a :: st) pc o := by
  subst hpc
  intro r x' ho H locs ls hP hS hl
  exact lv_i2c C.1 C.2.1 hd rfl (k r x' ho H locs ls hP hS hl)
theorem k_lcmp (C : k_C Γ p R s m args meth c cc nL own rm) {a b : Int64} (hd : decode cc pc = .ok (.lcmp, 1)) (hpc : pc + 1 = pc') (k : Sm Γ K p l e R s m args below meth c nL rt x lv (.int (lg_cmp a b) :: st) pc' o) : Sm Γ K p l e R s m args below meth c nL rt x lv (.long b :: .long a :: st) pc o := by
  subst hpc
  intro r x' ho H locs ls hP hS hl
  exact W.lcmp C.1 C.2.1 hd (k r x' ho H locs ls hP hS hl)
theorem k_dup (C : k_C Γ p R s m args meth c cc nL own rm) {v : Value} (hd : decode cc pc = .ok (.dup, 1)) (hva : v.category = 1) (hpc : pc + 1 = pc') (k : Sm Γ K p l e R s m args below meth c nL rt x lv (v :: v :: st) pc' o) : Sm Γ K p l e R s m args below meth c nL rt x lv (v :: st) pc o := by
  subst hpc
  intro r x' ho H locs ls hP hS hl
  exact lv_dup C.1 C.2.1 hd hva (k r x' ho H locs ls hP hS hl)
theorem k_pop (C : k_C Γ p R s m args meth c cc nL own rm) {v : Value} (hd : decode cc pc = .ok (.pop, 1)) (hva : v.category = 1) (hpc : pc + 1 = pc') (k : Sm Γ K p l e R s m args below meth c nL rt x lv st pc' o) : Sm Γ K p l e R s m args below meth c nL rt x lv (v :: st) pc o := by
  subst hpc
  intro r x' ho H locs ls hP hS hl
  exact lv_pop C.1 C.2.1 hd hva (k r x' ho H locs ls hP hS hl)
theorem k_dup2 (C : k_C Γ p R s m args meth c cc nL own rm) {v w : Value} (hd : decode cc pc = .ok (.dup2, 1)) (hva : v.category = 1) (hvb : w.category = 1) (hpc : pc + 1 = pc') (k : Sm Γ K p l e R s m args below meth c nL rt x lv (v :: w :: v :: w :: st) pc' o) : Sm Γ K p l e R s m args below meth c nL rt x lv (v :: w :: st) pc o := by
  subst hpc
  intro r x' ho H locs ls hP hS hl
  exact lv_dup2_11 C.1 C.2.1 hd hva hvb (k r x' ho H locs ls hP hS hl)
theorem k_dup_x1 (C : k_C Γ p R s m args meth c cc nL own rm) {v w : Value} (hd : decode cc pc = .ok (.dup_x1, 1)) (hva : v.category = 1) (hvb : w.category = 1) (hpc : pc + 1 = pc') (k : Sm Γ K p l e R s m args below meth c nL rt x lv (v :: w :: v :: st) pc' o) : Sm Γ K p l e R s m args below meth c nL rt x lv (v :: w :: st) pc o := by
  subst hpc
  intro r x' ho H locs ls hP hS hl
  exact lv_dup_x1 C.1 C.2.1 hd hva hvb (k r x' ho H locs ls hP hS hl)
theorem k_goto (C : k_C Γ p R s m args meth c cc nL own rm) {off : Int} (hd : decode cc pc = .ok (.goto off, 3)) (ht : (pc : Int) + off = (pc' : Int)) (k : Sm Γ K p l e R s m args below meth c nL rt x lv st pc' o) : Sm Γ K p l e R s m args below meth c nL rt x lv st pc o := fun r x' ho H locs ls hP hS hl => lv_goto C.1 C.2.1 hd ht (k r x' ho H locs ls hP hS hl)
theorem k_if_eq (C : k_C Γ p R s m args meth c cc nL own rm) {a : Int32} {off : Int} {tgt : Nat} (hd : decode cc pc = .ok (.ifCond .eq off, 3)) (ht : (pc : Int) + off = (tgt : Int)) (hpc : pc + 3 = pc') (kt : a = 0 → Sm Γ K p l e R s m args below meth c nL rt x lv st tgt o1) (kf : ¬ a = 0 → Sm Γ K p l e R s m args below meth c nL rt x lv st pc' o2) : Sm Γ K p l e R s m args below meth c nL rt x lv (.int a :: st) pc (if a = 0 then o1 else o2) := by
  subst hpc
  intro r x' ho H locs ls hP hS hl
  exact lv_if_eq C.1 C.2.1 hd ht (fun h => kt h r x' (by rw [if_pos h] at ho; exact ho) H locs ls hP hS hl) (fun h => kf h r x' (by rw [if_neg h] at ho; exact ho) H locs ls hP hS hl)
theorem k_if_ne (C : k_C Γ p R s m args meth c cc nL own rm) {a : Int32} {off : Int} {tgt : Nat} (hd : decode cc pc = .ok (.ifCond .ne off, 3)) (ht : (pc : Int) + off = (tgt : Int)) (hpc : pc + 3 = pc') (kt : ¬ a = 0 → Sm Γ K p l e R s m args below meth c nL rt x lv st tgt o1) (kf : a = 0 → Sm Γ K p l e R s m args below meth c nL rt x lv st pc' o2) : Sm Γ K p l e R s m args below meth c nL rt x lv (.int a :: st) pc (if a = 0 then o2 else o1) := by
  subst hpc
  intro r x' ho H locs ls hP hS hl
  exact lv_if_ne C.1 C.2.1 hd ht (fun h => kt h r x' (by rw [if_neg h] at ho; exact ho) H locs ls hP hS hl) (fun h => kf h r x' (by rw [if_pos h] at ho; exact ho) H locs ls hP hS hl)
theorem k_if_lt (C : k_C Γ p R s m args meth c cc nL own rm) {a : Int32} {off : Int} {tgt : Nat} (hd : decode cc pc = .ok (.ifCond .lt off, 3)) (ht : (pc : Int) + off = (tgt : Int)) (hpc : pc + 3 = pc') (kt : a < 0 → Sm Γ K p l e R s m args below meth c nL rt x lv st tgt o1) (kf : ¬ a < 0 → Sm Γ K p l e R s m args below meth c nL rt x lv st pc' o2) : Sm Γ K p l e R s m args below meth c nL rt x lv (.int a :: st) pc (if a < 0 then o1 else o2) := by
  subst hpc
  intro r x' ho H locs ls hP hS hl
  exact lv_if_lt C.1 C.2.1 hd ht (fun h => kt h r x' (by rw [if_pos h] at ho; exact ho) H locs ls hP hS hl) (fun h => kf h r x' (by rw [if_neg h] at ho; exact ho) H locs ls hP hS hl)
theorem k_if_ge (C : k_C Γ p R s m args meth c cc nL own rm) {a : Int32} {off : Int} {tgt : Nat} (hd : decode cc pc = .ok (.ifCond .ge off, 3)) (ht : (pc : Int) + off = (tgt : Int)) (hpc : pc + 3 = pc') (kt : 0 ≤ a → Sm Γ K p l e R s m args below meth c nL rt x lv st tgt o1) (kf : ¬ 0 ≤ a → Sm Γ K p l e R s m args below meth c nL rt x lv st pc' o2) : Sm Γ K p l e R s m args below meth c nL rt x lv (.int a :: st) pc (if 0 ≤ a then o1 else o2) := by
  subst hpc
  intro r x' ho H locs ls hP hS hl
  exact lv_if_ge C.1 C.2.1 hd ht (fun h => kt h r x' (by rw [if_pos h] at ho; exact ho) H locs ls hP hS hl) (fun h => kf h r x' (by rw [if_neg h] at ho; exact ho) H locs ls hP hS hl)
theorem k_if_gt (C : k_C Γ p R s m args meth c cc nL own rm) {a : Int32} {off : Int} {tgt : Nat} (hd : decode cc pc = .ok (.ifCond .gt off, 3)) (ht : (pc : Int) + off = (tgt : Int)) (hpc : pc + 3 = pc') (kt : 0 < a → Sm Γ K p l e R s m args below meth c nL rt x lv st tgt o1) (kf : ¬ 0 < a → Sm Γ K p l e R s m args below meth c nL rt x lv st pc' o2) : Sm Γ K p l e R s m args below meth c nL rt x lv (.int a :: st) pc (if 0 < a then o1 else o2) := by
  subst hpc
  intro r x' ho H locs ls hP hS hl
  exact lv_if_gt C.1 C.2.1 hd ht (fun h => kt h r x' (by rw [if_pos h] at ho; exact ho) H locs ls hP hS hl) (fun h => kf h r x' (by rw [if_neg h] at ho; exact ho) H locs ls hP hS hl)
theorem k_if_le (C : k_C Γ p R s m args meth c cc nL own rm) {a : Int32} {off : Int} {tgt : Nat} (hd : decode cc pc = .ok (.ifCond .le off, 3)) (ht : (pc : Int) + off = (tgt : Int)) (hpc : pc + 3 = pc') (kt : a ≤ 0 → Sm Γ K p l e R s m args below meth c nL rt x lv st tgt o1) (kf : ¬ a ≤ 0 → Sm Γ K p l e R s m args below meth c nL rt x lv st pc' o2) : Sm Γ K p l e R s m args below meth c nL rt x lv (.int a :: st) pc (if a ≤ 0 then o1 else o2) := by
  subst hpc
  intro r x' ho H locs ls hP hS hl
  exact lv_if_le C.1 C.2.1 hd ht (fun h => kt h r x' (by rw [if_pos h] at ho; exact ho) H locs ls hP hS hl) (fun h => kf h r x' (by rw [if_neg h] at ho; exact ho) H locs ls hP hS hl)
theorem k_ic_eq (C : k_C Γ p R s m args meth c cc nL own rm) {a b : Int32} {off : Int} {tgt : Nat} (hd : decode cc pc = .ok (.if_icmp .eq off, 3)) (ht : (pc : Int) + off = (tgt : Int)) (hpc : pc + 3 = pc') (kt : a = b → Sm Γ K p l e R s m args below meth c nL rt x lv st tgt o1) (kf : ¬ a = b → Sm Γ K p l e R s m args below meth c nL rt x lv st pc' o2) : Sm Γ K p l e R s m args below meth c nL rt x lv (.int b :: .int a :: st) pc (if a = b then o1 else o2) := by
  subst hpc
  intro r x' ho H locs ls hP hS hl
  exact lv_icmp_eq C.1 C.2.1 hd ht (fun h => kt h r x' (by rw [if_pos h] at ho; exact ho) H locs ls hP hS hl) (fun h => kf h r x' (by rw [if_neg h] at ho; exact ho) H locs ls hP hS hl)
theorem k_ic_ne (C : k_C Γ p R s m args meth c cc nL own rm) {a b : Int32} {off : Int} {tgt : Nat} (hd : decode cc pc = .ok (.if_icmp .ne off, 3)) (ht : (pc : Int) + off = (tgt : Int)) (hpc : pc + 3 = pc') (kt : ¬ a = b → Sm Γ K p l e R s m args below meth c nL rt x lv st tgt o1) (kf : a = b → Sm Γ K p l e R s m args below meth c nL rt x lv st pc' o2) : Sm Γ K p l e R s m args below meth c nL rt x lv (.int b :: .int a :: st) pc (if a = b then o2 else o1) := by
  subst hpc
  intro r x' ho H locs ls hP hS hl
  exact lv_icmp_ne C.1 C.2.1 hd ht (fun h => kt h r x' (by rw [if_neg h] at ho; exact ho) H locs ls hP hS hl) (fun h => kf h r x' (by rw [if_pos h] at ho; exact ho) H locs ls hP hS hl)
theorem k_ic_lt (C : k_C Γ p R s m args meth c cc nL own rm) {a b : Int32} {off : Int} {tgt : Nat} (hd : decode cc pc = .ok (.if_icmp .lt off, 3)) (ht : (pc : Int) + off = (tgt : Int)) (hpc : pc + 3 = pc') (kt : a < b → Sm Γ K p l e R s m args below meth c nL rt x lv st tgt o1) (kf : ¬ a < b → Sm Γ K p l e R s m args below meth c nL rt x lv st pc' o2) : Sm Γ K p l e R s m args below meth c nL rt x lv (.int b :: .int a :: st) pc (if a < b then o1 else o2) := by
  subst hpc
  intro r x' ho H locs ls hP hS hl
  exact lv_icmp_lt C.1 C.2.1 hd ht (fun h => kt h r x' (by rw [if_pos h] at ho; exact ho) H locs ls hP hS hl) (fun h => kf h r x' (by rw [if_neg h] at ho; exact ho) H locs ls hP hS hl)
theorem k_ic_ge (C : k_C Γ p R s m args meth c cc nL own rm) {a b : Int32} {off : Int} {tgt : Nat} (hd : decode cc pc = .ok (.if_icmp .ge off, 3)) (ht : (pc : Int) + off = (tgt : Int)) (hpc : pc + 3 = pc') (kt : b ≤ a → Sm Γ K p l e R s m args below meth c nL rt x lv st tgt o1) (kf : ¬ b ≤ a → Sm Γ K p l e R s m args below meth c nL rt x lv st pc' o2) : Sm Γ K p l e R s m args below meth c nL rt x lv (.int b :: .int a :: st) pc (if b ≤ a then o1 else o2) := by
  subst hpc
  intro r x' ho H locs ls hP hS hl
  exact lv_icmp_ge C.1 C.2.1 hd ht (fun h => kt h r x' (by rw [if_pos h] at ho; exact ho) H locs ls hP hS hl) (fun h => kf h r x' (by rw [if_neg h] at ho; exact ho) H locs ls hP hS hl)
theorem k_ic_gt (C : k_C Γ p R s m args meth c cc nL own rm) {a b : Int32} {off : Int} {tgt : Nat} (hd : decode cc pc = .ok (.if_icmp .gt off, 3)) (ht : (pc : Int) + off = (tgt : Int)) (hpc : pc + 3 = pc') (kt : b < a → Sm Γ K p l e R s m args below meth c nL rt x lv st tgt o1) (kf : ¬ b < a → Sm Γ K p l e R s m args below meth c nL rt x lv st pc' o2) : Sm Γ K p l e R s m args below meth c nL rt x lv (.int b :: .int a :: st) pc (if b < a then o1 else o2) := by
  subst hpc
  intro r x' ho H locs ls hP hS hl
  exact lv_icmp_gt C.1 C.2.1 hd ht (fun h => kt h r x' (by rw [if_pos h] at ho; exact ho) H locs ls hP hS hl) (fun h => kf h r x' (by rw [if_neg h] at ho; exact ho) H locs ls hP hS hl)
theorem k_ic_le (C : k_C Γ p R s m args meth c cc nL own rm) {a b : Int32} {off : Int} {tgt : Nat} (hd : decode cc pc = .ok (.if_icmp .le off, 3)) (ht : (pc : Int) + off = (tgt : Int)) (hpc : pc + 3 = pc') (kt : a ≤ b → Sm Γ K p l e R s m args below meth c nL rt x lv st tgt o1) (kf : ¬ a ≤ b → Sm Γ K p l e R s m args below meth c nL rt x lv st pc' o2) : Sm Γ K p l e R s m args below meth c nL rt x lv (.int b :: .int a :: st) pc (if a ≤ b then o1 else o2) := by
  subst hpc
  intro r x' ho H locs ls hP hS hl
  exact lv_icmp_le C.1 C.2.1 hd ht (fun h => kt h r x' (by rw [if_pos h] at ho; exact ho) H locs ls hP hS hl) (fun h => kf h r x' (by rw [if_neg h] at ho; exact ho) H locs ls hP hS hl)
theorem k_tswIn (C : k_C Γ p R s m args meth c cc nL own rm) {dflt lo hi : Int} {offs : Array Int} {len : Nat} {a v : Int32} (off : Int) (hd : decode cc pc = .ok (.tableswitch dflt lo hi offs, len)) (ha : a = v) (h1 : ¬ v.toInt < lo) (h2 : ¬ hi < v.toInt) (hf : offs[(v.toInt - lo).toNat]? = some off) (ht : (pc : Int) + off = (pc' : Int)) (k : Sm Γ K p l e R s m args below meth c nL rt x lv st pc' o) : Sm Γ K p l e R s m args below meth c nL rt x lv (.int a :: st) pc o := by
  subst ha
  exact fun r x' ho H locs ls hP hS hl => lv_tableIn C.1 C.2.1 hd h1 h2 hf ht (k r x' ho H locs ls hP hS hl)
theorem k_tswOut (C : k_C Γ p R s m args meth c cc nL own rm) {dflt lo hi : Int} {offs : Array Int} {len : Nat} {a : Int32} (hd : decode cc pc = .ok (.tableswitch dflt lo hi offs, len)) (h : a.toInt < lo ∨ hi < a.toInt) (ht : (pc : Int) + dflt = (pc' : Int)) (k : Sm Γ K p l e R s m args below meth c nL rt x lv st pc' o) : Sm Γ K p l e R s m args below meth c nL rt x lv (.int a :: st) pc o :=
  fun r x' ho H locs ls hP hS hl => lv_tableOut C.1 C.2.1 hd h ht (k r x' ho H locs ls hP hS hl)
theorem k_lsw (C : k_C Γ p R s m args meth c cc nL own rm) {dflt off : Int} {ps : Array (Int × Int)} {len : Nat} {a : Int32} (hd : decode cc pc = .ok (.lookupswitch dflt ps, len)) (hp : (ps.toList.zip (ps.toList.drop 1)).all (fun (a, next) => a.1 < next.1) = true) (hf : Op.lookupswitch.offset ps.toList dflt a.toInt = off) (ht : (pc : Int) + off = (pc' : Int)) (k : Sm Γ K p l e R s m args below meth c nL rt x lv st pc' o) : Sm Γ K p l e R s m args below meth c nL rt x lv (.int a :: st) pc o :=
  fun r x' ho H locs ls hP hS hl => lv_lookup C.1 C.2.1 hd hp hf ht (k r x' ho H locs ls hP hS hl)
theorem k_reti (C : k_C Γ p R s m args meth c cc nL own rm) (hrt : rt = true) (hr : meth.sig.returnType = some .int) {v : Int32} (hd : decode cc pc = .ok (.ireturn, 1)) : Sm Γ K p l e R s m args below meth c nL rt x lv [.int v] pc (some (v, x)) := by
  subst hrt
  intro r x' ho H locs ls hP hS hl
  cases ho
  exact W.iret C.1 C.2.1 hr (fun t ht hW => ⟨rfl, by rw [ht]; exact hP, hS.F ht⟩) hS.2.2 hd C.2.2.2.2.1
theorem k_retz (C : k_C Γ p R s m args meth c cc nL own rm) (hrt : rt = true) (hr : meth.sig.returnType = some .boolean) {v : Int32} (hv : v = 0 ∨ v = 1) (hd : decode cc pc = .ok (.ireturn, 1)) : Sm Γ K p l e R s m args below meth c nL rt x lv [.int v] pc (some (v, x)) := by
  subst hrt
  intro r x' ho H locs ls hP hS hl
  cases ho
  exact W.zret C.1 C.2.1 hr (by rcases hv with rfl | rfl <;> rfl) (fun t ht hW => ⟨rfl, by rw [ht]; exact hP, hS.F ht⟩) hS.2.2 hd C.2.2.2.2.1
theorem k_retv (C : k_C Γ p R s m args meth c cc nL own rm) (hrt : rt = false) (hr : meth.sig.returnType = none) (hd : decode cc pc = .ok (.return_, 1)) : Sm Γ K p l e R s m args below meth c nL rt x lv [] pc (some (0, x)) := by
  subst hrt
  intro r x' ho H locs ls hP hS hl
  cases ho
  exact W.vret C.1 C.2.1 hr (fun t ht hW => ⟨rfl, by rw [ht]; exact hP, hS.F ht⟩) hS.2.2 hd C.2.2.2.2.1
/-- what a class's field is, by number: its link from a class, its lays -/
def k_fld (own : String) (idx ci kk : Nat) : Prop := ∃ q : vw_C, vwCl[ci]? = some q ∧ kk < q.2.2 ∧ Cond.fieldLink own idx (q.2.1 kk).1 (q.2.1 kk).2.1 (q.2.1 kk).2.2.1 ∈ lw_g ∧ ∀ w ∈ u_ws q.1 q.2.1 q.2.2, w ∈ lw_g
def k_fldp (ci kk : Nat) : Prop := ∃ (q : vw_C) (ty0 : Nat → FieldType), vwCl[ci]? = some q ∧ (∀ k, k < q.2.2 → parseFieldDescriptor (q.2.1 k).2.2.1 = some (ty0 k)) ∧ (∀ a, a < q.2.2 → ∀ b, b < q.2.2 → a ≠ b → (q.2.1 a).2.1 ≠ (q.2.1 b).2.1) ∧ (q.2.1 kk).2.2.2 = false ∧ parseFieldDescriptor (q.2.1 kk).2.2.1 = some .int
theorem k_getf (C : k_C Γ p R s m args meth c cc nL own rm) {i j ci idx : Nat} {fs : List Value} {v : Value} (kk : Nat) (hce : K.2 x i j = .inr (ci, fs)) (hij : 44 * i + j < K.1 ∧ j < 44) (F : k_fld own idx ci kk) (hv : fs[kk]? = some v) (hd : decode cc pc = .ok (.getfield idx, 3)) (hpc : pc + 3 = pc') (k : Sm Γ K p l e R s m args below meth c nL rt x lv (v :: st) pc' o) : Sm Γ K p l e R s m args below meth c nL rt x lv (.ref (Γ.1 i j) :: st) pc o := by
  subst hpc
  obtain ⟨⟨Cn, T, N⟩, f1, f2, f3, f4⟩ := F
  intro r x' ho H locs ls hP hS hl
  have he := k_wl_at (Γ := Γ) (x := x) hij
  rw [hce] at he
  exact va_get C.1 C.2.1 C.2.2.2.2.2.1 f4 C.2.2.2.1 C.2.2.2.2.2.2.1 hP (44 * i + j) he f1 kk f2 (C.2.2.2.2.2.1 _ f3) (fun _ h => h) hv hd (k r x' ho H locs ls hP hS hl)
theorem k_putf (C : k_C Γ p R s m args meth c cc nL own rm) (hL : k_L Γ K) {i j ci idx : Nat} {fs : List Value} {v : Int32} {x1 : μ} {f : μ → Option (Int32 × μ)} (kk : Nat) (hce : K.2 x i j = .inr (ci, fs)) (hij : 44 * i + j < K.1 ∧ j < 44) (F : k_fld own idx ci kk) (G : k_fldp ci kk) (hlen : kk < fs.length) (hset : ∀ i' j', K.2 x1 i' j' = if i' = i ∧ j' = j then .inr (ci, fs.set kk (.int v)) else K.2 x i' j') (hd : decode cc pc = .ok (.putfield idx, 3)) (hpc : pc + 3 = pc') (k : ∀ x : μ, Sm Γ K p l e R s m args below meth c nL rt x lv st pc' (f x)) : Sm Γ K p l e R s m args below meth c nL rt x lv (.int v :: .ref (Γ.1 i j) :: st) pc (k_let x1 f) := by
  subst hpc
  obtain ⟨⟨Cn, T, N⟩, f1, f2, f3, f4⟩ := F
  obtain ⟨q, ty0, g1, g2, g3, g4, g5⟩ := G
  have hq : q = (Cn, T, N) := Option.some.inj (g1.symm.trans f1)
  subst hq
  intro r x' ho H locs ls hP hS hl
  have he := k_wl_at (Γ := Γ) (x := x) hij
  rw [hce] at he
  refine va_put C.1 C.2.1 C.2.2.2.2.2.1 f4 ty0 g2 g3 C.2.2.2.1 C.2.2.2.2.2.2.1 hP (hL x) hS (44 * i + j) he f1 kk f2 (C.2.2.2.2.2.1 _ f3) (fun _ h => h) g4 g5 rfl rfl hlen hd (fun H1 locs1 hP1 hD1 hS1 => ?_)
  rw [k_wl_set hij hset] at hP1
  exact k x1 r x' ho H1 locs1 ls hP1 hS1 hl
theorem k_inb {a : Int32} {n : Nat} (h : ¬ a < 0 ∧ a.toNatClampNeg < n) : vp_in a n := fun q => by
  rcases q with q | q
  · exact h.1 q
  · omega
theorem k_iald (C : k_C Γ p R s m args meth c cc nL own rm) {i j n : Nat} {f : Nat → Int32} {a : Int32} (hce : K.2 x i j = .inl (Γ.2.2.1 0, n, .inl f)) (hij : 44 * i + j < K.1 ∧ j < 44) (hd : decode cc pc = .ok (.iaload, 1)) (hpc : pc + 1 = pc') (k : (¬ a < 0 ∧ a.toNatClampNeg < n) → Sm Γ K p l e R s m args below meth c nL rt x lv (.int (f a.toNatClampNeg) :: st) pc' o) : Sm Γ K p l e R s m args below meth c nL rt x lv (.int a :: .ref (Γ.1 i j) :: st) pc (if ¬ a < 0 ∧ a.toNatClampNeg < n then o else none) := by
  subst hpc
  refine k_gd fun h => ?_
  intro r x' ho H locs ls hP hS hl
  have he := k_wl_at (Γ := Γ) (x := x) hij
  rw [hce] at he
  exact va_iald C.1 C.2.1 C.2.2.2.2.2.2.1 hP (44 * i + j) 0 he rfl (k_inb h) hd (k h r x' ho H locs ls hP hS hl)
theorem k_cald (C : k_C Γ p R s m args meth c cc nL own rm) {i j n : Nat} {f : Nat → Int32} {a : Int32} (hce : K.2 x i j = .inl (Γ.2.2.1 1, n, .inl f)) (hij : 44 * i + j < K.1 ∧ j < 44) (hd : decode cc pc = .ok (.caload, 1)) (hpc : pc + 1 = pc') (k : (¬ a < 0 ∧ a.toNatClampNeg < n) → Sm Γ K p l e R s m args below meth c nL rt x lv (.int (f a.toNatClampNeg) :: st) pc' o) : Sm Γ K p l e R s m args below meth c nL rt x lv (.int a :: .ref (Γ.1 i j) :: st) pc (if ¬ a < 0 ∧ a.toNatClampNeg < n then o else none) := by
  subst hpc
  refine k_gd fun h => ?_
  intro r x' ho H locs ls hP hS hl
  have he := k_wl_at (Γ := Γ) (x := x) hij
  rw [hce] at he
  exact va_cald C.1 C.2.1 C.2.2.2.2.2.2.1 hP (44 * i + j) 1 he rfl (k_inb h) hd (k h r x' ho H locs ls hP hS hl)
theorem k_iast (C : k_C Γ p R s m args meth c cc nL own rm) (hL : k_L Γ K) {i j n : Nat} {f : Nat → Int32} {a v : Int32} {x1 : μ} {f1 : μ → Option (Int32 × μ)} (hce : K.2 x i j = .inl (Γ.2.2.1 0, n, .inl f)) (hij : 44 * i + j < K.1 ∧ j < 44) (hset : ∀ i' j', K.2 x1 i' j' = if i' = i ∧ j' = j then .inl (Γ.2.2.1 0, n, .inl (upd f a.toNatClampNeg v)) else K.2 x i' j') (hd : decode cc pc = .ok (.iastore, 1)) (hpc : pc + 1 = pc') (k : (¬ a < 0 ∧ a.toNatClampNeg < n) → ∀ x : μ, Sm Γ K p l e R s m args below meth c nL rt x lv st pc' (f1 x)) : Sm Γ K p l e R s m args below meth c nL rt x lv (.int v :: .int a :: .ref (Γ.1 i j) :: st) pc (if ¬ a < 0 ∧ a.toNatClampNeg < n then k_let x1 f1 else none) := by
  subst hpc
  refine k_gd fun h => ?_
  intro r x' ho H locs ls hP hS hl
  have he := k_wl_at (Γ := Γ) (x := x) hij
  rw [hce] at he
  refine va_iast C.1 C.2.1 C.2.2.2.2.2.2.1 hP (hL x) hS (44 * i + j) 0 he rfl (k_inb h) hd (fun H1 locs1 hP1 hD1 hS1 => ?_)
  rw [k_wl_set hij hset] at hP1
  exact k h x1 r x' ho H1 locs1 ls hP1 hS1 hl
theorem k_cast (C : k_C Γ p R s m args meth c cc nL own rm) (hL : k_L Γ K) {i j n : Nat} {f : Nat → Int32} {a v : Int32} {x1 : μ} {f1 : μ → Option (Int32 × μ)} (hce : K.2 x i j = .inl (Γ.2.2.1 1, n, .inl f)) (hij : 44 * i + j < K.1 ∧ j < 44) (hset : ∀ i' j', K.2 x1 i' j' = if i' = i ∧ j' = j then .inl (Γ.2.2.1 1, n, .inl (upd f a.toNatClampNeg (vp_nar .char v))) else K.2 x i' j') (hd : decode cc pc = .ok (.castore, 1)) (hpc : pc + 1 = pc') (k : (¬ a < 0 ∧ a.toNatClampNeg < n) → ∀ x : μ, Sm Γ K p l e R s m args below meth c nL rt x lv st pc' (f1 x)) : Sm Γ K p l e R s m args below meth c nL rt x lv (.int v :: .int a :: .ref (Γ.1 i j) :: st) pc (if ¬ a < 0 ∧ a.toNatClampNeg < n then k_let x1 f1 else none) := by
  subst hpc
  refine k_gd fun h => ?_
  intro r x' ho H locs ls hP hS hl
  have he := k_wl_at (Γ := Γ) (x := x) hij
  rw [hce] at he
  refine va_cast C.1 C.2.1 C.2.2.2.2.2.2.1 hP (hL x) hS (44 * i + j) 1 he rfl (k_inb h) hd (fun H1 locs1 hP1 hD1 hS1 => ?_)
  rw [k_wl_set hij hset] at hP1
  exact k h x1 r x' ho H1 locs1 ls hP1 hS1 hl
theorem k_aald (C : k_C Γ p R s m args meth c cc nL own rm) {i j n b : Nat} {f : Nat → Option Nat} {a : Int32} (t0 : Nat) {Cn : String} (hce : K.2 x i j = .inl (Γ.2.2.1 t0, n, .inr (.inr (.inr (.inr f))))) (hij : 44 * i + j < K.1 ∧ j < 44) (ht : (k_tys Γ)[t0]? = some (Γ.2.2.1 t0, .object Cn)) (hf : f a.toNatClampNeg = some b) (hd : decode cc pc = .ok (.aaload, 1)) (hpc : pc + 1 = pc') (k : (¬ a < 0 ∧ a.toNatClampNeg < n) → Sm Γ K p l e R s m args below meth c nL rt x lv (.ref b :: st) pc' o) : Sm Γ K p l e R s m args below meth c nL rt x lv (.int a :: .ref (Γ.1 i j) :: st) pc (if ¬ a < 0 ∧ a.toNatClampNeg < n then o else none) := by
  subst hpc
  refine k_gd fun h => ?_
  intro r x' ho H locs ls hP hS hl
  have he := k_wl_at (Γ := Γ) (x := x) hij
  rw [hce] at he
  refine va_aldq C.1 C.2.1 C.2.2.2.2.2.2.1 hP (44 * i + j) t0 he ht (k_inb h) hd ?_
  rw [hf]
  exact k h r x' ho H locs ls hP hS hl
/-- the tables' words of a method that is called -/
def k_mw (y : MethodName) (cc : ByteArray) (nL : Nat) (ret : Option FieldType) (n : Nat) : Prop := Cond.code y cc nL ret ∈ lw_g ∧ Cond.initialized y.cls ∈ lw_g ∧ (y.cls ≠ "java/lang/invoke/MethodHandle" ∧ y.cls ≠ "java/lang/invoke/VarHandle") ∧ (parseMethodDescriptor y.desc).map (fun d => d.parameters.length) = some n
def k_iw (y : MethodName) : Prop := Cond.instanceMethod y ∈ lw_g ∧ Cond.selects y.cls y y ∈ lw_g
theorem k_mw.sig {y : MethodName} {cc : ByteArray} {nL n : Nat} {ret : Option FieldType} (h : k_mw y cc nL ret n) : ∀ sig, parseMethodDescriptor y.desc = some sig → n = sig.parameters.length := fun sig hs => by
  have h2 := h.2.2.2
  rw [hs] at h2
  exact (Option.some.inj h2).symm
theorem k_w.go (C : k_C Γ p R s m args meth c cc nL own rm) {H : Heap} {locs : List Loc} (hP : va_P Γ.2.1 vwCl (k_wl Γ K x) H) (hS : va_S Γ.2.2.2 s.heap H locs) {U : State} (hU : U.heap = H) (hW : s.WarmedH U.vm) : k_w Γ K x U :=
  ⟨by rw [hU]; exact hP, va_K.moved hW.alike C.2.2.2.2.2.2.1, by rw [hU]; exact (C.2.2.2.2.2.2.2.1.moved hW.alike).kept (fun a h1 h2 => hS.2.1 a h1 h2), C.2.2.2.2.2.2.2.2.2.warm hW⟩
theorem k_w.blind {As : List Value} : FrameBlind (va_Pc As (k_w Γ K x)) := fun a U g mk q => ⟨q.1, q.2.1, va_K.moved (u := U) (U := U.calling g mk a) (Vm.Alike.refl U.vm) q.2.2.1, k_st.moved (u := U) (U := U.calling g mk a) (Vm.Alike.refl U.vm) q.2.2.2.1, k_nw.same (u := U) (U := U.calling g mk a) rfl q.2.2.2.2⟩
theorem k_after {H : Heap} {locs : List Loc} {ls : Array Slot} {st0 rest : List Value} {a : Array Value} {Q : State → Prop} {x' : μ} {r : Int32} {rt' : Bool} (hr : va_Run p l e R s m args below meth c H locs 0 0 0 0 (F0 m pc ls st0) rest (k_q rt' Γ K x' r a) Γ.2.2.2) (hS : va_S Γ.2.2.2 s.heap H locs)
    (kk : ∀ (H1 : Heap) (locs1 : List Loc), va_P Γ.2.1 vwCl (k_wl Γ K x') H1 → va_S Γ.2.2.2 s.heap H1 locs1 → W p l e R s m args below meth c H1 locs1 0 0 Q (F0 m (pc + 3) ls ((if rt' then some (Value.int r) else none).toList ++ rest))) : W p l e R s m args below meth c H locs 0 0 Q (F0 m pc ls st0) := by
  intro T hT X
  obtain ⟨v, st₀, t, T', L, h0, X', hL, e1, e2, ⟨hv, hp, hz, hk⟩, stp⟩ := hr T hT X
  cases hv
  rw [h0] at hz hk
  obtain ⟨t2, a1, b1⟩ := kk T'.heap (locs ++ L) (by rw [e1]; exact hp)
    ⟨Nat.le_trans hS.1 (by rw [e1]; exact hz), fun q h1 h2 => by rw [e1, hk q (Nat.lt_of_lt_of_le h1 hS.1) h2]; exact hS.2.1 q h1 h2, fun q hq => by
      rcases List.mem_append.mp hq with h | h
      · exact hS.2.2 q h
      · exact hL q h⟩ T' rfl X'
  exact ⟨t2, stp t2 a1, b1⟩
/-- the room that a callee wants of the caller's -/
def k_rm (rm' rm : Room) (nL' : Nat) : Prop := rm'.cells = 0 ∧ rm'.slots = 0 ∧ rm'.frames + 1 ≤ rm.frames ∧ 8 + (nL' + 11) + rm'.locals ≤ rm.locals
theorem k_callV (C : k_C Γ p R s m args meth c cc nL own rm) {y : MethodName} {cc' : ByteArray} {nL' idx n : Nat} {ret : Option FieldType} {rm' : Room} {i j : Nat} {ci : Nat} {fs As rest : List Value} {o1 : Option (Int32 × μ)} {f : Int32 → μ → Option (Int32 × μ)} (hC : CT l Γ K y cc' nL' ret rm' (.ref (Γ.1 i j) :: As) x o1) (F : k_mw y cc' nL' ret n) (G : k_iw y) (hlk : Cond.methodLink own idx y ∈ lw_g) (hrm : k_rm rm' rm nL') (hce : K.2 x i j = .inr (ci, fs)) (hij : 44 * i + j < K.1 ∧ j < 44) (hc : (vwCl[ci]?).map (fun q => q.1) = some y.cls) (hn : As.length = n) (hst : st = As.reverse ++ .ref (Γ.1 i j) :: rest) (hcat : (rest.map fun v => v.category).sum ≤ 8) (hd : decode cc pc = .ok (.invokevirtual idx, 3)) (hpc : pc + 3 = pc')
    (k : ∀ (r : Int32) (x : μ), Sm Γ K p l e R s m args below meth c nL rt x lv ((if ret.isSome then some (Value.int r) else none).toList ++ rest) pc' (f r x)) : Sm Γ K p l e R s m args below meth c nL rt x lv st pc (bd o1 f) := by
  subst hpc
  subst hst
  intro r x' ho H locs ls hP hS hl
  obtain ⟨r1, x1, h1, h2⟩ := bd_some ho
  have hM := hC r1 x1 h1
  obtain ⟨hx, hb, hml, hown, hlocks, hts, hK, hst', hR, hnw⟩ := id C
  subst hR
  have he := k_wl_at (Γ := Γ) (x := x) hij
  rw [hce] at he
  obtain ⟨q, hq, hqc⟩ := Option.map_eq_some_iff.mp hc
  refine k_after (va_runV (Ts := lw_g) (own := own) (C := y.cls) (As := As) (rest := rest) ⟨hx, hb, hml, hown, hts⟩ hM ⟨⟨hrm.1, hrm.2.1, hrm.2.2.1, hrm.2.2.2, pay_in hts (tbl_in F.1), List.mem_cons_self, hts _ F.1, hts _ F.2.1, F.2.2.1, F.sig, hts _ hlk⟩, hts _ G.1, hts _ G.2⟩ ⟨k_w.blind, by rw [← hqc]; exact va_recv hK hP hq he, fun U hU hW => ⟨rfl, k_w.go C hP hS hU hW⟩⟩ rfl hn hl.1 rfl (lv_room hcat) hd ⟨Nat.zero_le _, Nat.zero_le _⟩) hS (fun H1 locs1 hP1 hS1 => ?_)
  exact k r1 x1 r x' h2 H1 locs1 ls hP1 hS1 hl
theorem k_callS (C : k_C Γ p R s m args meth c cc nL own rm) {y : MethodName} {cc' : ByteArray} {nL' idx n : Nat} {ret : Option FieldType} {rm' : Room} {As rest : List Value} {o1 : Option (Int32 × μ)} {f : Int32 → μ → Option (Int32 × μ)} (hC : CT l Γ K y cc' nL' ret rm' As x o1) (F : k_mw y cc' nL' ret n) (G : Cond.static y ∈ lw_g) (hlk : Cond.methodLink own idx y ∈ lw_g) (hrm : k_rm rm' rm nL') (hn : As.length = n) (hst : st = As.reverse ++ rest) (hcat : (rest.map fun v => v.category).sum ≤ 8) (hd : decode cc pc = .ok (.invokestatic idx, 3)) (hpc : pc + 3 = pc')
    (k : ∀ (r : Int32) (x : μ), Sm Γ K p l e R s m args below meth c nL rt x lv ((if ret.isSome then some (Value.int r) else none).toList ++ rest) pc' (f r x)) : Sm Γ K p l e R s m args below meth c nL rt x lv st pc (bd o1 f) := by
  subst hpc
  subst hst
  intro r x' ho H locs ls hP hS hl
  obtain ⟨r1, x1, h1, h2⟩ := bd_some ho
  have hM := hC r1 x1 h1
  obtain ⟨hx, hb, hml, hown, hlocks, hts, hK, hst', hR, hnw⟩ := id C
  subst hR
  refine k_after (va_runS (Ts := lw_g) (own := own) (As := As) (rest := rest) ⟨hx, hb, hml, hown, hts⟩ hM ⟨⟨hrm.1, hrm.2.1, hrm.2.2.1, hrm.2.2.2, pay_in hts (tbl_in F.1), List.mem_cons_self, hts _ F.1, hts _ F.2.1, F.2.2.1, F.sig, hts _ hlk⟩, hts _ G⟩ ⟨k_w.blind, fun U hU hW => ⟨rfl, k_w.go C hP hS hU hW⟩⟩ rfl hn hl.1 rfl (lv_room hcat) hd ⟨Nat.zero_le _, Nat.zero_le _⟩) hS (fun H1 locs1 hP1 hS1 => ?_)
  exact k r1 x1 r x' h2 H1 locs1 ls hP1 hS1 hl
theorem k_callSN (C : k_C Γ p R s m args meth c cc nL own rm) {y : MethodName} {host : String} {cc' : ByteArray} {nL' idx n : Nat} {ret : Option FieldType} {rm' : Room} {As rest : List Value} {o1 : Option (Int32 × μ)} {f : Int32 → μ → Option (Int32 × μ)} (hC : CT l Γ K y cc' nL' ret rm' As x o1) (F : k_mw y cc' nL' ret n) (G : Cond.static y ∈ lw_g) (hlk : k_nw s → va_Nw (.methodLinkNest own idx y host) s) (hrm : k_rm rm' rm nL') (hn : As.length = n) (hst : st = As.reverse ++ rest) (hcat : (rest.map fun v => v.category).sum ≤ 8) (hd : decode cc pc = .ok (.invokestatic idx, 3)) (hpc : pc + 3 = pc')
    (k : ∀ (r : Int32) (x : μ), Sm Γ K p l e R s m args below meth c nL rt x lv ((if ret.isSome then some (Value.int r) else none).toList ++ rest) pc' (f r x)) : Sm Γ K p l e R s m args below meth c nL rt x lv st pc (bd o1 f) := by
  subst hpc
  subst hst
  intro r x' ho H locs ls hP hS hl
  obtain ⟨r1, x1, h1, h2⟩ := bd_some ho
  have hM := hC r1 x1 h1
  obtain ⟨hx, hb, hml, hown, hlocks, hts, hK, hst', hR, hnw⟩ := id C
  subst hR
  refine k_after (va_runSN (Ts := lw_g) (own := own) (host := host) (As := As) (rest := rest) ⟨hx, hb, hml, hown, hts⟩ hM ⟨⟨⟨hrm.1, hrm.2.1, hrm.2.2.1, hrm.2.2.2, pay_in hts (tbl_in F.1), List.mem_cons_self⟩, hts _ F.1, hts _ F.2.1, F.2.2.1, F.sig, va_Nw.use rfl (hlk hnw)⟩, hts _ G, trivial⟩ ⟨k_w.blind, fun U hU hW => ⟨rfl, k_w.go C hP hS hU hW⟩⟩ rfl hn hl.1 rfl (lv_room hcat) hd ⟨Nat.zero_le _, Nat.zero_le _⟩) hS (fun H1 locs1 hP1 hS1 => ?_)
  exact k r1 x1 r x' h2 H1 locs1 ls hP1 hS1 hl

theorem k_mmin (C : k_C Γ p R s m args meth c cc nL own rm) {idx : Nat} {a b : Int32} (hlk : Cond.methodLink own idx Lib.Math.min.name ∈ lw_g) (hw : Cond.static Lib.Math.min.name ∈ lw_g ∧ Cond.initialized "java/lang/Math" ∈ lw_g ∧ Cond.code Lib.Math.min.name Lib.Math.min.code 2 (some .int) ∈ lw_g) (hrm : 1 ≤ rm.frames ∧ 21 ≤ rm.locals) (hcat : (st.map fun v => v.category).sum ≤ 8) (hd : decode cc pc = .ok (.invokestatic idx, 3)) (hpc : pc + 3 = pc') (k : Sm Γ K p l e R s m args below meth c nL rt x lv (.int (if b < a then b else a) :: st) pc' o) : Sm Γ K p l e R s m args below meth c nL rt x lv (.int b :: .int a :: st) pc o := by
  subst hpc
  intro r x' ho H locs ls hP hS hl
  obtain ⟨hx, hb, hml, hown, hlocks, hts, hK, hst', hR, hnw⟩ := id C
  subst hR
  exact va_mmin hx hb (hml.trans hl.1.symm) hown (hts _ hlk) (hts _ hw.1) (hts _ hw.2.1) (hts _ hw.2.2) hrm.1 (by omega) (Nat.zero_le _) (Nat.zero_le _) hd (k r x' ho H locs ls hP hS hl)
theorem k_mmax (C : k_C Γ p R s m args meth c cc nL own rm) {idx : Nat} {a b : Int32} (hlk : Cond.methodLink own idx Lib.Math.max.name ∈ lw_g) (hw : Cond.static Lib.Math.max.name ∈ lw_g ∧ Cond.initialized "java/lang/Math" ∈ lw_g ∧ Cond.code Lib.Math.max.name Lib.Math.max.code 2 (some .int) ∈ lw_g) (hrm : 1 ≤ rm.frames ∧ 21 ≤ rm.locals) (hcat : (st.map fun v => v.category).sum ≤ 8) (hd : decode cc pc = .ok (.invokestatic idx, 3)) (hpc : pc + 3 = pc') (k : Sm Γ K p l e R s m args below meth c nL rt x lv (.int (if a < b then b else a) :: st) pc' o) : Sm Γ K p l e R s m args below meth c nL rt x lv (.int b :: .int a :: st) pc o := by
  subst hpc
  intro r x' ho H locs ls hP hS hl
  obtain ⟨hx, hb, hml, hown, hlocks, hts, hK, hst', hR, hnw⟩ := id C
  subst hR
  exact va_mmax hx hb (hml.trans hl.1.symm) hown (hts _ hlk) (hts _ hw.1) (hts _ hw.2.1) (hts _ hw.2.2) hrm.1 (by omega) (Nat.zero_le _) (Nat.zero_le _) hd (k r x' ho H locs ls hP hS hl)
theorem k_mabs (C : k_C Γ p R s m args meth c cc nL own rm) {idx : Nat} {a : Int32} (hlk : Cond.methodLink own idx Lib.Math.abs.name ∈ lw_g) (hw : Cond.static Lib.Math.abs.name ∈ lw_g ∧ Cond.initialized "java/lang/Math" ∈ lw_g ∧ Cond.code Lib.Math.abs.name Lib.Math.abs.code 1 (some .int) ∈ lw_g) (hrm : 1 ≤ rm.frames ∧ 21 ≤ rm.locals) (hcat : (st.map fun v => v.category).sum ≤ 8) (hd : decode cc pc = .ok (.invokestatic idx, 3)) (hpc : pc + 3 = pc') (k : Sm Γ K p l e R s m args below meth c nL rt x lv (.int (if 0 ≤ a then a else 0 - a) :: st) pc' o) : Sm Γ K p l e R s m args below meth c nL rt x lv (.int a :: st) pc o := by
  subst hpc
  intro r x' ho H locs ls hP hS hl
  obtain ⟨hx, hb, hml, hown, hlocks, hts, hK, hst', hR, hnw⟩ := id C
  subst hR
  exact va_mabs hx hb (hml.trans hl.1.symm) hown (hts _ hlk) (hts _ hw.1) (hts _ hw.2.1) (hts _ hw.2.2) hrm.1 (by omega) (Nat.zero_le _) (Nat.zero_le _) hd (k r x' ho H locs ls hP hS hl)
theorem k_getsL (C : k_C Γ p R s m args meth c cc nL own rm) {idx : Nat} (hlk : k_nw s → va_Nw (.fieldLinkNest own idx "SeaMill" "LEAST_SETTINGS" "[I" "SeaMill") s) (hd : decode cc pc = .ok (.getstatic idx, 3)) (hpc : pc + 3 = pc') (k : ∀ t : Nat, va_T .int t 13 (fun j => .int (k_least j)) Γ.2.2.2 s s.heap → Sm Γ K p l e R s m args below meth c nL rt x lv (.ref t :: st) pc' o) : Sm Γ K p l e R s m args below meth c nL rt x lv st pc o := by
  subst hpc
  intro r x' ho H locs ls hP hS hl
  obtain ⟨hx, hb, hml, hown, hlocks, hts, hK, hst', hR, hnw⟩ := id C
  obtain ⟨⟨t, h1, h2⟩, -⟩ := hst'
  exact va_getsN hx hb h1 hS hown (va_Nw.use rfl (hlk hnw)) (fun _ h => h) hd (k t h2 r x' ho H locs ls hP hS hl)
theorem k_getsG (C : k_C Γ p R s m args meth c cc nL own rm) {idx : Nat} (hlk : k_nw s → va_Nw (.fieldLinkNest own idx "SeaMill" "GREATEST_SETTINGS" "[I" "SeaMill") s) (hd : decode cc pc = .ok (.getstatic idx, 3)) (hpc : pc + 3 = pc') (k : ∀ t : Nat, va_T .int t 13 (fun j => .int (k_great j)) Γ.2.2.2 s s.heap → Sm Γ K p l e R s m args below meth c nL rt x lv (.ref t :: st) pc' o) : Sm Γ K p l e R s m args below meth c nL rt x lv st pc o := by
  subst hpc
  intro r x' ho H locs ls hP hS hl
  obtain ⟨hx, hb, hml, hown, hlocks, hts, hK, hst', hR, hnw⟩ := id C
  obtain ⟨-, ⟨t, h1, h2⟩⟩ := hst'
  exact va_getsN hx hb h1 hS hown (va_Nw.use rfl (hlk hnw)) (fun _ h => h) hd (k t h2 r x' ho H locs ls hP hS hl)
theorem k_tald (C : k_C Γ p R s m args meth c cc nL own rm) {t : Nat} {f : Nat → Int32} {a : Int32} (hT : va_T .int t 13 (fun j => .int (f j)) Γ.2.2.2 s s.heap) (hd : decode cc pc = .ok (.iaload, 1)) (hpc : pc + 1 = pc') (k : (¬ a < 0 ∧ a.toNatClampNeg < 13) → Sm Γ K p l e R s m args below meth c nL rt x lv (.int (f a.toNatClampNeg) :: st) pc' o) : Sm Γ K p l e R s m args below meth c nL rt x lv (.int a :: .ref t :: st) pc (if ¬ a < 0 ∧ a.toNatClampNeg < 13 then o else none) := by
  subst hpc
  refine k_gd fun h => ?_
  intro r x' ho H locs ls hP hS hl
  exact va_ti C.1 C.2.1 hT hS (k_inb h) rfl hd (k h r x' ho H locs ls hP hS hl)
end KC
end
section
abbrev kM1 : Type := Nat → Nat → Int32
abbrev kM2 : Type := Nat → Nat → Nat → Int32
def mu (m : kM1) (j k : Nat) (v : Int32) : kM1 := fun j' => if j' = j then upd (m j) k v else m j'
def up (M : kM2) (i : Nat) (m : kM1) : kM2 := fun i' => if i' = i then m else M i'
def mw (M : kM2) (i j k : Nat) (v : Int32) : kM2 := up M i (mu (M i) j k v)
theorem up_self (M : kM2) (i : Nat) : up M i (M i) = M := by
  funext i'
  unfold up
  split
  · next h => rw [h]
  · rfl
theorem up_same (M : kM2) (i : Nat) (m : kM1) : up M i m i = m := by unfold up; rw [if_pos rfl]
theorem up_up (M : kM2) (i : Nat) (m m' : kM1) : up (up M i m) i m' = up M i m' := by
  funext i'
  unfold up
  split <;> rfl
theorem up_ne (M : kM2) {i i' : Nat} (m : kM1) (h : i' ≠ i) : up M i m i' = M i' := by unfold up; rw [if_neg h]
abbrev fsMill (Γ : kG) (i : Nat) (r : Nat → Int32) : List Value := [.ref (Γ.1 i 1), .ref (Γ.1 i 2), .ref (Γ.1 i 3), .ref (Γ.1 i 4), .ref (Γ.1 i 5), .int (r 5), .int (r 6), .int (r 7), .int (r 8), .int (r 9), .int (r 10), .int (r 11), .int (r 12), .int (r 13), .int (r 14), .int (r 15), .int (r 16), .int (r 17)]
abbrev fsKind (r : Nat → Int32) : List Value := [.int (r 0), .int (r 1), .int (r 2)]
abbrev fsFarmer (r : Nat → Int32) : List Value := [.int (r 0), .int (r 1)]
abbrev fsSack (r : Nat → Int32) : List Value := [.int (r 0), .int (r 1), .int (r 2), .int (r 3), .int (r 4), .int (r 5), .int (r 6), .int (r 7), .int (r 8), .int (r 9), .int (r 10), .int (r 11), .int (r 12), .int (r 13), .int (r 14), .int (r 15), .int (r 16)]
abbrev fsSea (Γ : kG) : List Value := [.ref (Γ.1 0 0), .ref (Γ.1 1 0), .ref (Γ.1 7 1), .ref (Γ.1 7 3)]
abbrev fsHist (Γ : kG) (r : Nat → Int32) : List Value := [.ref (Γ.1 7 2), .int (r 1), .int (r 2)]
abbrev fsOrd (Γ : kG) (r : Nat → Int32) : List Value := [.ref (Γ.1 7 4), .ref (Γ.1 7 5), .int (r 2), .int (r 3), .int (r 4), .int (r 5), .int (r 6)]
abbrev fsModel (Γ : kG) (r : Nat → Int32) : List Value := [.ref (Γ.1 0 1), .ref (Γ.1 0 2), .ref (Γ.1 0 3), .ref (Γ.1 0 4), .int (r 4), .ref (Γ.1 0 5), .int (r 6), .int (r 7), .int (r 8), .ref (Γ.1 0 6)]
/-- the cell at a place of a mill -/
def ceMill (Γ : kG) (i j : Nat) (r : Nat → Int32) : va_E :=
  if j = 0 then .inr (3, fsMill Γ i r) else if j = 1 then .inl (Γ.2.2.1 0, 13, .inl r) else if j = 2 then .inl (Γ.2.2.1 0, 4, .inl r)
  else if j = 3 then .inl (Γ.2.2.1 2, 6, .inr (.inr (.inr (.inr (fun q => some (Γ.1 i (6 + q)))))))
  else if j = 4 then .inl (Γ.2.2.1 3, 8, .inr (.inr (.inr (.inr (fun q => some (Γ.1 i (12 + q)))))))
  else if j = 5 then .inl (Γ.2.2.1 4, 24, .inr (.inr (.inr (.inr (fun q => some (Γ.1 i (20 + q)))))))
  else if j < 12 then .inr (2, fsKind r) else if j < 20 then .inr (0, fsFarmer r) else .inr (5, fsSack r)
def ceOth (Γ : kG) (j : Nat) (r : Nat → Int32) : va_E :=
  if j = 0 then .inr (6, fsSea Γ) else if j = 1 then .inr (1, fsHist Γ r)
  else if j = 2 then .inl (Γ.2.2.1 5, 5, .inr (.inr (.inr (.inr (fun q => some (Γ.1 (2 + q) 0))))))
  else if j = 3 then .inr (4, fsOrd Γ r) else if j = 4 then .inl (Γ.2.2.1 1, 60, .inl r) else .inl (Γ.2.2.1 0, 3, .inl r)
def ceI (Γ : kG) (i j : Nat) (r : Nat → Int32) : va_E := if i < 7 then ceMill Γ i j r else ceOth Γ j r
def ceD (Γ : kG) (j : Nat) (r : Nat → Int32) : va_E :=
  if j = 0 then .inr (7, fsModel Γ r) else if j = 1 then .inl (Γ.2.2.1 0, 368, .inl r) else if j = 2 then .inl (Γ.2.2.1 0, 1472, .inl r)
  else if j = 3 then .inl (Γ.2.2.1 0, 368, .inl r) else if j = 4 then .inl (Γ.2.2.1 0, 368, .inl r) else if j = 5 then .inl (Γ.2.2.1 1, 60, .inl r) else .inl (Γ.2.2.1 0, 3, .inl r)
/-- the class's cells, seen from one group of them (K1), whole (K2); the reference's cells (K3) -/
def K1 (Γ : kG) (M : kM2) (i : Nat) : Nat × (kM1 → Nat → Nat → va_E) := (314, fun m i' j' => ceI Γ i' j' (up M i m i' j'))
def K2 (Γ : kG) : Nat × (kM2 → Nat → Nat → va_E) := (314, fun M i' j' => ceI Γ i' j' (M i' j'))
def K3 (Γ : kG) : Nat × (kM1 → Nat → Nat → va_E) := (7, fun m i' j' => if i' = 0 then ceD Γ j' (m j') else .inr (7, []))
theorem c1 (Γ : kG) (M : kM2) (i : Nat) (m : kM1) (j : Nat) {E : va_E} (h : ceI Γ i j (m j) = E) : (K1 Γ M i).2 m i j = E := by
  show ceI Γ i j (up M i m i j) = E
  rw [up_same]; exact h
theorem c2 (Γ : kG) (M : kM2) (i j : Nat) {E : va_E} (h : ceI Γ i j (M i j) = E) : (K2 Γ).2 M i j = E := h
theorem c3 (Γ : kG) (m : kM1) (j : Nat) {E : va_E} (h : ceD Γ j (m j) = E) : (K3 Γ).2 m 0 j = E := by
  show (if 0 = 0 then ceD Γ j (m j) else .inr (7, [])) = E
  rw [if_pos rfl]; exact h
theorem s1 (Γ : kG) (M : kM2) (i : Nat) (m : kM1) (j k : Nat) (v : Int32) {E : va_E} (h : ceI Γ i j (upd (m j) k v) = E) : ∀ i' j', (K1 Γ M i).2 (mu m j k v) i' j' = if i' = i ∧ j' = j then E else (K1 Γ M i).2 m i' j' := by
  intro i' j'
  show ceI Γ i' j' (up M i (mu m j k v) i' j') = if i' = i ∧ j' = j then E else ceI Γ i' j' (up M i m i' j')
  by_cases h1 : i' = i
  · subst h1
    rw [up_same, up_same]
    unfold mu
    by_cases h2 : j' = j
    · subst h2
      rw [if_pos rfl, if_pos ⟨rfl, rfl⟩]; exact h
    · rw [if_neg h2, if_neg (fun z => h2 z.2)]
  · rw [up_ne M _ h1, up_ne M _ h1, if_neg (fun z => h1 z.1)]
theorem s2 (Γ : kG) (M : kM2) (i j k : Nat) (v : Int32) {E : va_E} (h : ceI Γ i j (upd (M i j) k v) = E) : ∀ i' j', (K2 Γ).2 (mw M i j k v) i' j' = if i' = i ∧ j' = j then E else (K2 Γ).2 M i' j' := by
  have h1 := s1 Γ M i (M i) j k v h
  intro i' j'
  have h2 := h1 i' j'
  show ceI Γ i' j' (up M i (mu (M i) j k v) i' j') = if i' = i ∧ j' = j then E else ceI Γ i' j' (M i' j')
  have e : (K1 Γ M i).2 (M i) i' j' = ceI Γ i' j' (M i' j') := by
    show ceI Γ i' j' (up M i (M i) i' j') = _
    rw [up_self]
  rw [e] at h2
  exact h2
theorem s3 (Γ : kG) (m : kM1) (j k : Nat) (v : Int32) {E : va_E} (h : ceD Γ j (upd (m j) k v) = E) : ∀ i' j', (K3 Γ).2 (mu m j k v) i' j' = if i' = 0 ∧ j' = j then E else (K3 Γ).2 m i' j' := by
  intro i' j'
  show (if i' = 0 then ceD Γ j' (mu m j k v j') else .inr (7, [])) = if i' = 0 ∧ j' = j then E else if i' = 0 then ceD Γ j' (m j') else .inr (7, [])
  by_cases h1 : i' = 0
  · rw [if_pos h1, if_pos h1]
    unfold mu
    by_cases h2 : j' = j
    · subst h2
      rw [if_pos rfl, if_pos ⟨h1, rfl⟩]; exact h
    · rw [if_neg h2, if_neg (fun z => h2 z.2)]
  · rw [if_neg h1, if_neg h1, if_neg (fun z => h1 z.1)]
theorem e_mill (Γ : kG) {i : Nat} (hi : i < 7) (r : Nat → Int32) : ceI Γ i 0 r = .inr (3, fsMill Γ i r) := by unfold ceI; rw [if_pos hi]; rfl
theorem e_sets (Γ : kG) {i : Nat} (hi : i < 7) (r : Nat → Int32) : ceI Γ i 1 r = .inl (Γ.2.2.1 0, 13, .inl r) := by unfold ceI; rw [if_pos hi]; rfl
theorem e_leaks (Γ : kG) {i : Nat} (hi : i < 7) (r : Nat → Int32) : ceI Γ i 2 r = .inl (Γ.2.2.1 0, 4, .inl r) := by unfold ceI; rw [if_pos hi]; rfl
theorem e_kinds (Γ : kG) {i : Nat} (hi : i < 7) (r : Nat → Int32) : ceI Γ i 3 r = .inl (Γ.2.2.1 2, 6, .inr (.inr (.inr (.inr (fun q => some (Γ.1 i (6 + q))))))) := by unfold ceI; rw [if_pos hi]; rfl
theorem e_farmers (Γ : kG) {i : Nat} (hi : i < 7) (r : Nat → Int32) : ceI Γ i 4 r = .inl (Γ.2.2.1 3, 8, .inr (.inr (.inr (.inr (fun q => some (Γ.1 i (12 + q))))))) := by unfold ceI; rw [if_pos hi]; rfl
theorem e_sacks (Γ : kG) {i : Nat} (hi : i < 7) (r : Nat → Int32) : ceI Γ i 5 r = .inl (Γ.2.2.1 4, 24, .inr (.inr (.inr (.inr (fun q => some (Γ.1 i (20 + q))))))) := by unfold ceI; rw [if_pos hi]; rfl
theorem e_kind (Γ : kG) {i j : Nat} (hi : i < 7) (hj : 6 ≤ j ∧ j < 12) (r : Nat → Int32) : ceI Γ i j r = .inr (2, fsKind r) := by
  unfold ceI ceMill
  rw [if_pos hi, if_neg (by omega), if_neg (by omega), if_neg (by omega), if_neg (by omega), if_neg (by omega), if_neg (by omega), if_pos (by omega)]
theorem e_farmer (Γ : kG) {i j : Nat} (hi : i < 7) (hj : 12 ≤ j ∧ j < 20) (r : Nat → Int32) : ceI Γ i j r = .inr (0, fsFarmer r) := by
  unfold ceI ceMill
  rw [if_pos hi, if_neg (by omega), if_neg (by omega), if_neg (by omega), if_neg (by omega), if_neg (by omega), if_neg (by omega), if_neg (by omega), if_pos (by omega)]
theorem e_sack (Γ : kG) {i j : Nat} (hi : i < 7) (hj : 20 ≤ j ∧ j < 44) (r : Nat → Int32) : ceI Γ i j r = .inr (5, fsSack r) := by
  unfold ceI ceMill
  rw [if_pos hi, if_neg (by omega), if_neg (by omega), if_neg (by omega), if_neg (by omega), if_neg (by omega), if_neg (by omega), if_neg (by omega), if_neg (by omega)]
theorem e_sea (Γ : kG) (r : Nat → Int32) : ceI Γ 7 0 r = .inr (6, fsSea Γ) := rfl
theorem e_hist (Γ : kG) (r : Nat → Int32) : ceI Γ 7 1 r = .inr (1, fsHist Γ r) := rfl
theorem e_states (Γ : kG) (r : Nat → Int32) : ceI Γ 7 2 r = .inl (Γ.2.2.1 5, 5, .inr (.inr (.inr (.inr (fun q => some (Γ.1 (2 + q) 0)))))) := rfl
theorem e_ord (Γ : kG) (r : Nat → Int32) : ceI Γ 7 3 r = .inr (4, fsOrd Γ r) := rfl
theorem e_text (Γ : kG) (r : Nat → Int32) : ceI Γ 7 4 r = .inl (Γ.2.2.1 1, 60, .inl r) := rfl
theorem e_nums (Γ : kG) (r : Nat → Int32) : ceI Γ 7 5 r = .inl (Γ.2.2.1 0, 3, .inl r) := rfl
theorem e_model (Γ : kG) (r : Nat → Int32) : ceD Γ 0 r = .inr (7, fsModel Γ r) := rfl
theorem e_d (Γ : kG) (r : Nat → Int32) : ceD Γ 1 r = .inl (Γ.2.2.1 0, 368, .inl r) := rfl
theorem e_was (Γ : kG) (r : Nat → Int32) : ceD Γ 2 r = .inl (Γ.2.2.1 0, 1472, .inl r) := rfl
theorem e_aside (Γ : kG) (r : Nat → Int32) : ceD Γ 3 r = .inl (Γ.2.2.1 0, 368, .inl r) := rfl
theorem e_begun (Γ : kG) (r : Nat → Int32) : ceD Γ 4 r = .inl (Γ.2.2.1 0, 368, .inl r) := rfl
theorem e_mtext (Γ : kG) (r : Nat → Int32) : ceD Γ 5 r = .inl (Γ.2.2.1 1, 60, .inl r) := rfl
theorem e_got (Γ : kG) (r : Nat → Int32) : ceD Γ 6 r = .inl (Γ.2.2.1 0, 3, .inl r) := rfl
theorem f_mill (Γ : kG) (i : Nat) (r : Nat → Int32) (v : Int32) (k : Nat) (hk : 5 ≤ k ∧ k < 18) : fsMill Γ i (upd r k v) = (fsMill Γ i r).set k (.int v) := by
  rcases (show k = 5 ∨ k = 6 ∨ k = 7 ∨ k = 8 ∨ k = 9 ∨ k = 10 ∨ k = 11 ∨ k = 12 ∨ k = 13 ∨ k = 14 ∨ k = 15 ∨ k = 16 ∨ k = 17 by omega) with rfl | rfl | rfl | rfl | rfl | rfl | rfl | rfl | rfl | rfl | rfl | rfl | rfl <;> rfl
theorem f_hist (Γ : kG) (r : Nat → Int32) (v : Int32) (k : Nat) (hk : 1 ≤ k ∧ k < 3) : fsHist Γ (upd r k v) = (fsHist Γ r).set k (.int v) := by
  rcases (show k = 1 ∨ k = 2 by omega) with rfl | rfl <;> rfl
theorem f_ord (Γ : kG) (r : Nat → Int32) (v : Int32) (k : Nat) (hk : 2 ≤ k ∧ k < 7) : fsOrd Γ (upd r k v) = (fsOrd Γ r).set k (.int v) := by
  rcases (show k = 2 ∨ k = 3 ∨ k = 4 ∨ k = 5 ∨ k = 6 by omega) with rfl | rfl | rfl | rfl | rfl <;> rfl
theorem f_kind  (r : Nat → Int32) (v : Int32) (k : Nat) (hk : 0 ≤ k ∧ k < 3) : fsKind (upd r k v) = (fsKind r).set k (.int v) := by
  rcases (show k = 0 ∨ k = 1 ∨ k = 2 by omega) with rfl | rfl | rfl <;> rfl
theorem f_farmer  (r : Nat → Int32) (v : Int32) (k : Nat) (hk : 0 ≤ k ∧ k < 2) : fsFarmer (upd r k v) = (fsFarmer r).set k (.int v) := by
  rcases (show k = 0 ∨ k = 1 by omega) with rfl | rfl <;> rfl
theorem f_sack  (r : Nat → Int32) (v : Int32) (k : Nat) (hk : 0 ≤ k ∧ k < 17) : fsSack (upd r k v) = (fsSack r).set k (.int v) := by
  rcases (show k = 0 ∨ k = 1 ∨ k = 2 ∨ k = 3 ∨ k = 4 ∨ k = 5 ∨ k = 6 ∨ k = 7 ∨ k = 8 ∨ k = 9 ∨ k = 10 ∨ k = 11 ∨ k = 12 ∨ k = 13 ∨ k = 14 ∨ k = 15 ∨ k = 16 by omega) with rfl | rfl | rfl | rfl | rfl | rfl | rfl | rfl | rfl | rfl | rfl | rfl | rfl | rfl | rfl | rfl | rfl <;> rfl
theorem f_model_4 (Γ : kG) (r : Nat → Int32) (v : Int32) : fsModel Γ (upd r 4 v) = (fsModel Γ r).set 4 (.int v) := rfl
theorem f_model_6 (Γ : kG) (r : Nat → Int32) (v : Int32) : fsModel Γ (upd r 6 v) = (fsModel Γ r).set 6 (.int v) := rfl
theorem f_model_7 (Γ : kG) (r : Nat → Int32) (v : Int32) : fsModel Γ (upd r 7 v) = (fsModel Γ r).set 7 (.int v) := rfl
theorem f_model_8 (Γ : kG) (r : Nat → Int32) (v : Int32) : fsModel Γ (upd r 8 v) = (fsModel Γ r).set 8 (.int v) := rfl
theorem v_i {i j : Nat} (hi : i < 7) (hj : j < 44) : 44 * i + j < 314 ∧ j < 44 := by omega
theorem v_7 {j : Nat} (hj : j < 6) : 44 * 7 + j < 314 ∧ j < 44 := by omega
theorem v_0 {j : Nat} (hj : j < 7) : 44 * 0 + j < 7 ∧ j < 44 := by omega
theorem j_kind {P : Prop} {a : Nat} (h : P ∧ a < 6) : 6 ≤ 6 + a ∧ 6 + a < 12 := by omega
theorem j_farmer {P : Prop} {a : Nat} (h : P ∧ a < 8) : 12 ≤ 12 + a ∧ 12 + a < 20 := by omega
theorem j_sack {P : Prop} {a : Nat} (h : P ∧ a < 24) : 20 ≤ 20 + a ∧ 20 + a < 44 := by omega
theorem i_state {P : Prop} {a : Nat} (h : P ∧ a < 5) : 2 + a < 7 := by omega
theorem h_kind {j : Nat} (h : 6 ≤ j ∧ j < 12) : j < 44 := by omega
theorem h_farmer {j : Nat} (h : 12 ≤ j ∧ j < 20) : j < 44 := by omega
theorem h_sack {j : Nat} (h : 20 ≤ j ∧ j < 44) : j < 44 := h.2
/-- a method of one group, called from whole -/
theorem CT.lift {l : Launch} {Γ : kG} {M : kM2} {i : Nat} {y : MethodName} {cc : ByteArray} {nL : Nat} {ret : Option FieldType} {rm : Room} {As : List Value} {o : Option (Int32 × kM1)} (h : CT l Γ (K1 Γ M i) y cc nL ret rm As (M i) o) : CT l Γ (K2 Γ) y cc nL ret rm As M (o.map fun q => (q.1, up M i q.2)) := by
  intro r x' ho
  obtain ⟨⟨r1, m1⟩, h1, h2⟩ := Option.map_eq_some_iff.mp ho
  cases h2
  have h3 := h r1 m1 h1
  have e0 : k_wl Γ (K1 Γ M i) (M i) = k_wl Γ (K2 Γ) M := by
    unfold k_wl K1 K2
    simp only [up_self]
  have e1 : k_wl Γ (K1 Γ M i) m1 = k_wl Γ (K2 Γ) (up M i m1) := rfl
  unfold k_w k_q at h3 ⊢
  rw [e0, e1] at h3
  exact h3
/-- the layout's own cells are apart, for the class's (314) and the reference's (7) -/
def k_Lay (Γ : kG) (n : Nat) : Prop := (∀ a b, a < n → b < n → Γ.1 (a / 44) (a % 44) = Γ.1 (b / 44) (b % 44) → a = b) ∧ ∀ a, a < n → Γ.2.2.2 (Γ.1 (a / 44) (a % 44))
theorem k_Lay.ok {Γ : kG} {μ : Type} {K : Nat × (μ → Nat → Nat → va_E)} (h : k_Lay Γ K.1) : k_L Γ K := by
  intro x
  have key : ∀ (k : Nat) (q : Nat × va_E), (k_wl Γ K x)[k]? = some q → k < K.1 ∧ q.1 = Γ.1 (k / 44) (k % 44) := by
    intro k q hk
    unfold k_wl at hk
    rw [List.getElem?_map] at hk
    obtain ⟨z, h1, h2⟩ := Option.map_eq_some_iff.mp hk
    obtain ⟨h3, h4⟩ := List.getElem?_eq_some_iff.mp h1
    simp only [List.length_range] at h3
    simp only [List.getElem_range] at h4
    subst h4
    subst h2
    exact ⟨h3, rfl⟩
  refine ⟨fun a b q1 q2 h1 h2 he => ?_, fun k q hk => ?_⟩
  · obtain ⟨a1, a2⟩ := key a q1 h1
    obtain ⟨b1, b2⟩ := key b q2 h2
    exact h.1 a b a1 b1 (by rw [← a2, ← b2]; exact he)
  · obtain ⟨a1, a2⟩ := key k q hk
    rw [a2]
    exact h.2 k a1
theorem k_Lay.k1 {Γ : kG} (h : k_Lay Γ 314) (M : kM2) (i : Nat) : k_L Γ (K1 Γ M i) := k_Lay.ok (K := K1 Γ M i) h
theorem k_Lay.k2 {Γ : kG} (h : k_Lay Γ 314) : k_L Γ (K2 Γ) := k_Lay.ok (K := K2 Γ) h
theorem k_Lay.k3 {Γ : kG} (h : k_Lay Γ 7) : k_L Γ (K3 Γ) := k_Lay.ok (K := K3 Γ) h
end
section
def hin_ok (ws : List Cond) : Bool := ws.all fun w => decide (w ∈ lw_tbl) && goodWord w
theorem hin_of {ws : List Cond} (h : hin_ok ws = true) : ∀ w ∈ ws, w ∈ lw_g := fun w hw => by
  have h1 := List.all_eq_true.mp h w hw
  simp only [Bool.and_eq_true, decide_eq_true_eq] at h1
  exact List.mem_filter.mpr h1
theorem hinX0 : ∀ w ∈ u_ws RX0 TX0 2, w ∈ lw_g := hin_of (by decide +kernel)
theorem hinX1 : ∀ w ∈ u_ws RX1 TX1 3, w ∈ lw_g := hin_of (by decide +kernel)
theorem hinX2 : ∀ w ∈ u_ws RX2 TX2 3, w ∈ lw_g := hin_of (by decide +kernel)
theorem hinX3 : ∀ w ∈ u_ws RX3 TX3 18, w ∈ lw_g := hin_of (by decide +kernel)
theorem hinX4 : ∀ w ∈ u_ws RX4 TX4 7, w ∈ lw_g := hin_of (by decide +kernel)
theorem hinX5 : ∀ w ∈ u_ws RX5 TX5 17, w ∈ lw_g := hin_of (by decide +kernel)
theorem hinX6 : ∀ w ∈ u_ws RX6 TX6 4, w ∈ lw_g := hin_of (by decide +kernel)
theorem hinX7 : ∀ w ∈ u_ws RX7 TX7 10, w ∈ lw_g := hin_of (by decide +kernel)
theorem flX2_7 : k_fld RX2 7 2 0 := ⟨(RX2, TX2, 3), rfl, by decide, lw_gm (i := 112) (by decide +kernel) rfl, hinX2⟩
theorem flX5_63 : k_fld RX5 63 2 0 := ⟨(RX2, TX2, 3), rfl, by decide, lw_gm (i := 113) (by decide +kernel) rfl, hinX2⟩
theorem flX3_123 : k_fld RX3 123 2 0 := ⟨(RX2, TX2, 3), rfl, by decide, lw_gm (i := 114) (by decide +kernel) rfl, hinX2⟩
theorem flX2_13 : k_fld RX2 13 2 1 := ⟨(RX2, TX2, 3), rfl, by decide, lw_gm (i := 115) (by decide +kernel) rfl, hinX2⟩
theorem flX5_66 : k_fld RX5 66 2 1 := ⟨(RX2, TX2, 3), rfl, by decide, lw_gm (i := 116) (by decide +kernel) rfl, hinX2⟩
theorem flX3_126 : k_fld RX3 126 2 1 := ⟨(RX2, TX2, 3), rfl, by decide, lw_gm (i := 117) (by decide +kernel) rfl, hinX2⟩
theorem flX2_16 : k_fld RX2 16 2 2 := ⟨(RX2, TX2, 3), rfl, by decide, lw_gm (i := 118) (by decide +kernel) rfl, hinX2⟩
theorem flX5_67 : k_fld RX5 67 2 2 := ⟨(RX2, TX2, 3), rfl, by decide, lw_gm (i := 119) (by decide +kernel) rfl, hinX2⟩
theorem flX3_129 : k_fld RX3 129 2 2 := ⟨(RX2, TX2, 3), rfl, by decide, lw_gm (i := 120) (by decide +kernel) rfl, hinX2⟩
theorem flX0_7 : k_fld RX0 7 0 0 := ⟨(RX0, TX0, 2), rfl, by decide, lw_gm (i := 134) (by decide +kernel) rfl, hinX0⟩
theorem flX3_132 : k_fld RX3 132 0 0 := ⟨(RX0, TX0, 2), rfl, by decide, lw_gm (i := 135) (by decide +kernel) rfl, hinX0⟩
theorem flX0_13 : k_fld RX0 13 0 1 := ⟨(RX0, TX0, 2), rfl, by decide, lw_gm (i := 136) (by decide +kernel) rfl, hinX0⟩
theorem flX3_135 : k_fld RX3 135 0 1 := ⟨(RX0, TX0, 2), rfl, by decide, lw_gm (i := 137) (by decide +kernel) rfl, hinX0⟩
theorem flX5_9 : k_fld RX5 9 5 0 := ⟨(RX5, TX5, 17), rfl, by decide, lw_gm (i := 148) (by decide +kernel) rfl, hinX5⟩
theorem flX3_203 : k_fld RX3 203 5 0 := ⟨(RX5, TX5, 17), rfl, by decide, lw_gm (i := 149) (by decide +kernel) rfl, hinX5⟩
theorem flX5_15 : k_fld RX5 15 5 1 := ⟨(RX5, TX5, 17), rfl, by decide, lw_gm (i := 150) (by decide +kernel) rfl, hinX5⟩
theorem flX3_206 : k_fld RX3 206 5 1 := ⟨(RX5, TX5, 17), rfl, by decide, lw_gm (i := 151) (by decide +kernel) rfl, hinX5⟩
theorem flX5_18 : k_fld RX5 18 5 2 := ⟨(RX5, TX5, 17), rfl, by decide, lw_gm (i := 152) (by decide +kernel) rfl, hinX5⟩
theorem flX3_209 : k_fld RX3 209 5 2 := ⟨(RX5, TX5, 17), rfl, by decide, lw_gm (i := 153) (by decide +kernel) rfl, hinX5⟩
theorem flX5_21 : k_fld RX5 21 5 3 := ⟨(RX5, TX5, 17), rfl, by decide, lw_gm (i := 154) (by decide +kernel) rfl, hinX5⟩
theorem flX5_24 : k_fld RX5 24 5 4 := ⟨(RX5, TX5, 17), rfl, by decide, lw_gm (i := 155) (by decide +kernel) rfl, hinX5⟩
theorem flX3_232 : k_fld RX3 232 5 4 := ⟨(RX5, TX5, 17), rfl, by decide, lw_gm (i := 156) (by decide +kernel) rfl, hinX5⟩
theorem flX5_27 : k_fld RX5 27 5 5 := ⟨(RX5, TX5, 17), rfl, by decide, lw_gm (i := 157) (by decide +kernel) rfl, hinX5⟩
theorem flX3_200 : k_fld RX3 200 5 5 := ⟨(RX5, TX5, 17), rfl, by decide, lw_gm (i := 158) (by decide +kernel) rfl, hinX5⟩
theorem flX5_30 : k_fld RX5 30 5 6 := ⟨(RX5, TX5, 17), rfl, by decide, lw_gm (i := 159) (by decide +kernel) rfl, hinX5⟩
theorem flX3_152 : k_fld RX3 152 5 6 := ⟨(RX5, TX5, 17), rfl, by decide, lw_gm (i := 160) (by decide +kernel) rfl, hinX5⟩
theorem flX6_150 : k_fld RX6 150 5 6 := ⟨(RX5, TX5, 17), rfl, by decide, lw_gm (i := 161) (by decide +kernel) rfl, hinX5⟩
theorem flX5_33 : k_fld RX5 33 5 7 := ⟨(RX5, TX5, 17), rfl, by decide, lw_gm (i := 162) (by decide +kernel) rfl, hinX5⟩
theorem flX5_36 : k_fld RX5 36 5 8 := ⟨(RX5, TX5, 17), rfl, by decide, lw_gm (i := 163) (by decide +kernel) rfl, hinX5⟩
theorem flX3_293 : k_fld RX3 293 5 8 := ⟨(RX5, TX5, 17), rfl, by decide, lw_gm (i := 164) (by decide +kernel) rfl, hinX5⟩
theorem flX5_39 : k_fld RX5 39 5 9 := ⟨(RX5, TX5, 17), rfl, by decide, lw_gm (i := 165) (by decide +kernel) rfl, hinX5⟩
theorem flX5_42 : k_fld RX5 42 5 10 := ⟨(RX5, TX5, 17), rfl, by decide, lw_gm (i := 166) (by decide +kernel) rfl, hinX5⟩
theorem flX5_45 : k_fld RX5 45 5 11 := ⟨(RX5, TX5, 17), rfl, by decide, lw_gm (i := 167) (by decide +kernel) rfl, hinX5⟩
theorem flX3_217 : k_fld RX3 217 5 11 := ⟨(RX5, TX5, 17), rfl, by decide, lw_gm (i := 168) (by decide +kernel) rfl, hinX5⟩
theorem flX5_48 : k_fld RX5 48 5 12 := ⟨(RX5, TX5, 17), rfl, by decide, lw_gm (i := 169) (by decide +kernel) rfl, hinX5⟩
theorem flX3_220 : k_fld RX3 220 5 12 := ⟨(RX5, TX5, 17), rfl, by decide, lw_gm (i := 170) (by decide +kernel) rfl, hinX5⟩
theorem flX5_51 : k_fld RX5 51 5 13 := ⟨(RX5, TX5, 17), rfl, by decide, lw_gm (i := 171) (by decide +kernel) rfl, hinX5⟩
theorem flX3_226 : k_fld RX3 226 5 13 := ⟨(RX5, TX5, 17), rfl, by decide, lw_gm (i := 172) (by decide +kernel) rfl, hinX5⟩
theorem flX5_54 : k_fld RX5 54 5 14 := ⟨(RX5, TX5, 17), rfl, by decide, lw_gm (i := 173) (by decide +kernel) rfl, hinX5⟩
theorem flX3_229 : k_fld RX3 229 5 14 := ⟨(RX5, TX5, 17), rfl, by decide, lw_gm (i := 174) (by decide +kernel) rfl, hinX5⟩
theorem flX5_57 : k_fld RX5 57 5 15 := ⟨(RX5, TX5, 17), rfl, by decide, lw_gm (i := 175) (by decide +kernel) rfl, hinX5⟩
theorem flX5_60 : k_fld RX5 60 5 16 := ⟨(RX5, TX5, 17), rfl, by decide, lw_gm (i := 176) (by decide +kernel) rfl, hinX5⟩
theorem flX3_160 : k_fld RX3 160 5 16 := ⟨(RX5, TX5, 17), rfl, by decide, lw_gm (i := 177) (by decide +kernel) rfl, hinX5⟩
theorem flX3_18 : k_fld RX3 18 3 0 := ⟨(RX3, TX3, 18), rfl, by decide, lw_gm (i := 213) (by decide +kernel) rfl, hinX3⟩
theorem flX6_163 : k_fld RX6 163 3 0 := ⟨(RX3, TX3, 18), rfl, by decide, lw_gm (i := 214) (by decide +kernel) rfl, hinX3⟩
theorem flX3_26 : k_fld RX3 26 3 1 := ⟨(RX3, TX3, 18), rfl, by decide, lw_gm (i := 215) (by decide +kernel) rfl, hinX3⟩
theorem flX3_31 : k_fld RX3 31 3 2 := ⟨(RX3, TX3, 18), rfl, by decide, lw_gm (i := 216) (by decide +kernel) rfl, hinX3⟩
theorem flX3_37 : k_fld RX3 37 3 3 := ⟨(RX3, TX3, 18), rfl, by decide, lw_gm (i := 217) (by decide +kernel) rfl, hinX3⟩
theorem flX3_43 : k_fld RX3 43 3 4 := ⟨(RX3, TX3, 18), rfl, by decide, lw_gm (i := 218) (by decide +kernel) rfl, hinX3⟩
theorem flX6_95 : k_fld RX6 95 3 4 := ⟨(RX3, TX3, 18), rfl, by decide, lw_gm (i := 219) (by decide +kernel) rfl, hinX3⟩
theorem flX3_91 : k_fld RX3 91 3 5 := ⟨(RX3, TX3, 18), rfl, by decide, lw_gm (i := 220) (by decide +kernel) rfl, hinX3⟩
theorem flX3_94 : k_fld RX3 94 3 6 := ⟨(RX3, TX3, 18), rfl, by decide, lw_gm (i := 221) (by decide +kernel) rfl, hinX3⟩
theorem flX3_97 : k_fld RX3 97 3 7 := ⟨(RX3, TX3, 18), rfl, by decide, lw_gm (i := 222) (by decide +kernel) rfl, hinX3⟩
theorem flX3_67 : k_fld RX3 67 3 8 := ⟨(RX3, TX3, 18), rfl, by decide, lw_gm (i := 223) (by decide +kernel) rfl, hinX3⟩
theorem flX6_137 : k_fld RX6 137 3 8 := ⟨(RX3, TX3, 18), rfl, by decide, lw_gm (i := 224) (by decide +kernel) rfl, hinX3⟩
theorem flX3_70 : k_fld RX3 70 3 9 := ⟨(RX3, TX3, 18), rfl, by decide, lw_gm (i := 225) (by decide +kernel) rfl, hinX3⟩
theorem flX3_73 : k_fld RX3 73 3 10 := ⟨(RX3, TX3, 18), rfl, by decide, lw_gm (i := 226) (by decide +kernel) rfl, hinX3⟩
theorem flX3_76 : k_fld RX3 76 3 11 := ⟨(RX3, TX3, 18), rfl, by decide, lw_gm (i := 227) (by decide +kernel) rfl, hinX3⟩
theorem flX6_199 : k_fld RX6 199 3 11 := ⟨(RX3, TX3, 18), rfl, by decide, lw_gm (i := 228) (by decide +kernel) rfl, hinX3⟩
theorem flX3_47 : k_fld RX3 47 3 12 := ⟨(RX3, TX3, 18), rfl, by decide, lw_gm (i := 229) (by decide +kernel) rfl, hinX3⟩
theorem flX3_51 : k_fld RX3 51 3 13 := ⟨(RX3, TX3, 18), rfl, by decide, lw_gm (i := 230) (by decide +kernel) rfl, hinX3⟩
theorem flX3_79 : k_fld RX3 79 3 14 := ⟨(RX3, TX3, 18), rfl, by decide, lw_gm (i := 231) (by decide +kernel) rfl, hinX3⟩
theorem flX3_82 : k_fld RX3 82 3 15 := ⟨(RX3, TX3, 18), rfl, by decide, lw_gm (i := 232) (by decide +kernel) rfl, hinX3⟩
theorem flX3_85 : k_fld RX3 85 3 16 := ⟨(RX3, TX3, 18), rfl, by decide, lw_gm (i := 233) (by decide +kernel) rfl, hinX3⟩
theorem flX3_88 : k_fld RX3 88 3 17 := ⟨(RX3, TX3, 18), rfl, by decide, lw_gm (i := 234) (by decide +kernel) rfl, hinX3⟩
theorem flX6_202 : k_fld RX6 202 3 17 := ⟨(RX3, TX3, 18), rfl, by decide, lw_gm (i := 235) (by decide +kernel) rfl, hinX3⟩
theorem flX1_11 : k_fld RX1 11 1 0 := ⟨(RX1, TX1, 3), rfl, by decide, lw_gm (i := 282) (by decide +kernel) rfl, hinX1⟩
theorem flX1_18 : k_fld RX1 18 1 1 := ⟨(RX1, TX1, 3), rfl, by decide, lw_gm (i := 283) (by decide +kernel) rfl, hinX1⟩
theorem flX1_22 : k_fld RX1 22 1 2 := ⟨(RX1, TX1, 3), rfl, by decide, lw_gm (i := 284) (by decide +kernel) rfl, hinX1⟩
theorem flX6_167 : k_fld RX6 167 1 2 := ⟨(RX1, TX1, 3), rfl, by decide, lw_gm (i := 285) (by decide +kernel) rfl, hinX1⟩
theorem flX4_9 : k_fld RX4 9 4 0 := ⟨(RX4, TX4, 7), rfl, by decide, lw_gm (i := 299) (by decide +kernel) rfl, hinX4⟩
theorem flX4_15 : k_fld RX4 15 4 1 := ⟨(RX4, TX4, 7), rfl, by decide, lw_gm (i := 300) (by decide +kernel) rfl, hinX4⟩
theorem flX4_19 : k_fld RX4 19 4 2 := ⟨(RX4, TX4, 7), rfl, by decide, lw_gm (i := 301) (by decide +kernel) rfl, hinX4⟩
theorem flX6_170 : k_fld RX6 170 4 2 := ⟨(RX4, TX4, 7), rfl, by decide, lw_gm (i := 302) (by decide +kernel) rfl, hinX4⟩
theorem flX4_24 : k_fld RX4 24 4 3 := ⟨(RX4, TX4, 7), rfl, by decide, lw_gm (i := 303) (by decide +kernel) rfl, hinX4⟩
theorem flX4_27 : k_fld RX4 27 4 4 := ⟨(RX4, TX4, 7), rfl, by decide, lw_gm (i := 304) (by decide +kernel) rfl, hinX4⟩
theorem flX6_193 : k_fld RX6 193 4 4 := ⟨(RX4, TX4, 7), rfl, by decide, lw_gm (i := 305) (by decide +kernel) rfl, hinX4⟩
theorem flX4_30 : k_fld RX4 30 4 5 := ⟨(RX4, TX4, 7), rfl, by decide, lw_gm (i := 306) (by decide +kernel) rfl, hinX4⟩
theorem flX6_190 : k_fld RX6 190 4 5 := ⟨(RX4, TX4, 7), rfl, by decide, lw_gm (i := 307) (by decide +kernel) rfl, hinX4⟩
theorem flX4_33 : k_fld RX4 33 4 6 := ⟨(RX4, TX4, 7), rfl, by decide, lw_gm (i := 308) (by decide +kernel) rfl, hinX4⟩
theorem flX6_196 : k_fld RX6 196 4 6 := ⟨(RX4, TX4, 7), rfl, by decide, lw_gm (i := 309) (by decide +kernel) rfl, hinX4⟩
theorem flX6_10 : k_fld RX6 10 6 0 := ⟨(RX6, TX6, 4), rfl, by decide, lw_gm (i := 326) (by decide +kernel) rfl, hinX6⟩
theorem flX6_16 : k_fld RX6 16 6 1 := ⟨(RX6, TX6, 4), rfl, by decide, lw_gm (i := 327) (by decide +kernel) rfl, hinX6⟩
theorem flX6_22 : k_fld RX6 22 6 2 := ⟨(RX6, TX6, 4), rfl, by decide, lw_gm (i := 328) (by decide +kernel) rfl, hinX6⟩
theorem flX6_29 : k_fld RX6 29 6 3 := ⟨(RX6, TX6, 4), rfl, by decide, lw_gm (i := 329) (by decide +kernel) rfl, hinX6⟩
theorem flX7_7 : k_fld RX7 7 7 0 := ⟨(RX7, TX7, 10), rfl, by decide, lw_gm (i := 821) (by decide +kernel) rfl, hinX7⟩
theorem flX7_13 : k_fld RX7 13 7 1 := ⟨(RX7, TX7, 10), rfl, by decide, lw_gm (i := 822) (by decide +kernel) rfl, hinX7⟩
theorem flX7_16 : k_fld RX7 16 7 2 := ⟨(RX7, TX7, 10), rfl, by decide, lw_gm (i := 823) (by decide +kernel) rfl, hinX7⟩
theorem flX7_19 : k_fld RX7 19 7 3 := ⟨(RX7, TX7, 10), rfl, by decide, lw_gm (i := 824) (by decide +kernel) rfl, hinX7⟩
theorem flX7_34 : k_fld RX7 34 7 4 := ⟨(RX7, TX7, 10), rfl, by decide, lw_gm (i := 825) (by decide +kernel) rfl, hinX7⟩
theorem flX7_22 : k_fld RX7 22 7 5 := ⟨(RX7, TX7, 10), rfl, by decide, lw_gm (i := 826) (by decide +kernel) rfl, hinX7⟩
theorem flX7_171 : k_fld RX7 171 7 6 := ⟨(RX7, TX7, 10), rfl, by decide, lw_gm (i := 827) (by decide +kernel) rfl, hinX7⟩
theorem flX7_174 : k_fld RX7 174 7 7 := ⟨(RX7, TX7, 10), rfl, by decide, lw_gm (i := 828) (by decide +kernel) rfl, hinX7⟩
theorem flX7_197 : k_fld RX7 197 7 8 := ⟨(RX7, TX7, 10), rfl, by decide, lw_gm (i := 829) (by decide +kernel) rfl, hinX7⟩
theorem flX7_26 : k_fld RX7 26 7 9 := ⟨(RX7, TX7, 10), rfl, by decide, lw_gm (i := 830) (by decide +kernel) rfl, hinX7⟩
theorem fpX0_0 : k_fldp 0 0 := ⟨(RX0, TX0, 2), tyX0, rfl, tyX0_ok, nmX0, rfl, by decide +kernel⟩
theorem fpX0_1 : k_fldp 0 1 := ⟨(RX0, TX0, 2), tyX0, rfl, tyX0_ok, nmX0, rfl, by decide +kernel⟩
theorem fpX1_1 : k_fldp 1 1 := ⟨(RX1, TX1, 3), tyX1, rfl, tyX1_ok, nmX1, rfl, by decide +kernel⟩
theorem fpX1_2 : k_fldp 1 2 := ⟨(RX1, TX1, 3), tyX1, rfl, tyX1_ok, nmX1, rfl, by decide +kernel⟩
theorem fpX2_0 : k_fldp 2 0 := ⟨(RX2, TX2, 3), tyX2, rfl, tyX2_ok, nmX2, rfl, by decide +kernel⟩
theorem fpX2_1 : k_fldp 2 1 := ⟨(RX2, TX2, 3), tyX2, rfl, tyX2_ok, nmX2, rfl, by decide +kernel⟩
theorem fpX2_2 : k_fldp 2 2 := ⟨(RX2, TX2, 3), tyX2, rfl, tyX2_ok, nmX2, rfl, by decide +kernel⟩
theorem fpX3_5 : k_fldp 3 5 := ⟨(RX3, TX3, 18), tyX3, rfl, tyX3_ok, nmX3, rfl, by decide +kernel⟩
theorem fpX3_6 : k_fldp 3 6 := ⟨(RX3, TX3, 18), tyX3, rfl, tyX3_ok, nmX3, rfl, by decide +kernel⟩
theorem fpX3_7 : k_fldp 3 7 := ⟨(RX3, TX3, 18), tyX3, rfl, tyX3_ok, nmX3, rfl, by decide +kernel⟩
theorem fpX3_8 : k_fldp 3 8 := ⟨(RX3, TX3, 18), tyX3, rfl, tyX3_ok, nmX3, rfl, by decide +kernel⟩
theorem fpX3_9 : k_fldp 3 9 := ⟨(RX3, TX3, 18), tyX3, rfl, tyX3_ok, nmX3, rfl, by decide +kernel⟩
theorem fpX3_10 : k_fldp 3 10 := ⟨(RX3, TX3, 18), tyX3, rfl, tyX3_ok, nmX3, rfl, by decide +kernel⟩
theorem fpX3_11 : k_fldp 3 11 := ⟨(RX3, TX3, 18), tyX3, rfl, tyX3_ok, nmX3, rfl, by decide +kernel⟩
theorem fpX3_12 : k_fldp 3 12 := ⟨(RX3, TX3, 18), tyX3, rfl, tyX3_ok, nmX3, rfl, by decide +kernel⟩
theorem fpX3_13 : k_fldp 3 13 := ⟨(RX3, TX3, 18), tyX3, rfl, tyX3_ok, nmX3, rfl, by decide +kernel⟩
theorem fpX3_14 : k_fldp 3 14 := ⟨(RX3, TX3, 18), tyX3, rfl, tyX3_ok, nmX3, rfl, by decide +kernel⟩
theorem fpX3_15 : k_fldp 3 15 := ⟨(RX3, TX3, 18), tyX3, rfl, tyX3_ok, nmX3, rfl, by decide +kernel⟩
theorem fpX3_16 : k_fldp 3 16 := ⟨(RX3, TX3, 18), tyX3, rfl, tyX3_ok, nmX3, rfl, by decide +kernel⟩
theorem fpX3_17 : k_fldp 3 17 := ⟨(RX3, TX3, 18), tyX3, rfl, tyX3_ok, nmX3, rfl, by decide +kernel⟩
theorem fpX4_2 : k_fldp 4 2 := ⟨(RX4, TX4, 7), tyX4, rfl, tyX4_ok, nmX4, rfl, by decide +kernel⟩
theorem fpX4_3 : k_fldp 4 3 := ⟨(RX4, TX4, 7), tyX4, rfl, tyX4_ok, nmX4, rfl, by decide +kernel⟩
theorem fpX4_4 : k_fldp 4 4 := ⟨(RX4, TX4, 7), tyX4, rfl, tyX4_ok, nmX4, rfl, by decide +kernel⟩
theorem fpX4_5 : k_fldp 4 5 := ⟨(RX4, TX4, 7), tyX4, rfl, tyX4_ok, nmX4, rfl, by decide +kernel⟩
theorem fpX4_6 : k_fldp 4 6 := ⟨(RX4, TX4, 7), tyX4, rfl, tyX4_ok, nmX4, rfl, by decide +kernel⟩
theorem fpX5_0 : k_fldp 5 0 := ⟨(RX5, TX5, 17), tyX5, rfl, tyX5_ok, nmX5, rfl, by decide +kernel⟩
theorem fpX5_1 : k_fldp 5 1 := ⟨(RX5, TX5, 17), tyX5, rfl, tyX5_ok, nmX5, rfl, by decide +kernel⟩
theorem fpX5_2 : k_fldp 5 2 := ⟨(RX5, TX5, 17), tyX5, rfl, tyX5_ok, nmX5, rfl, by decide +kernel⟩
theorem fpX5_3 : k_fldp 5 3 := ⟨(RX5, TX5, 17), tyX5, rfl, tyX5_ok, nmX5, rfl, by decide +kernel⟩
theorem fpX5_4 : k_fldp 5 4 := ⟨(RX5, TX5, 17), tyX5, rfl, tyX5_ok, nmX5, rfl, by decide +kernel⟩
theorem fpX5_5 : k_fldp 5 5 := ⟨(RX5, TX5, 17), tyX5, rfl, tyX5_ok, nmX5, rfl, by decide +kernel⟩
theorem fpX5_6 : k_fldp 5 6 := ⟨(RX5, TX5, 17), tyX5, rfl, tyX5_ok, nmX5, rfl, by decide +kernel⟩
theorem fpX5_7 : k_fldp 5 7 := ⟨(RX5, TX5, 17), tyX5, rfl, tyX5_ok, nmX5, rfl, by decide +kernel⟩
theorem fpX5_8 : k_fldp 5 8 := ⟨(RX5, TX5, 17), tyX5, rfl, tyX5_ok, nmX5, rfl, by decide +kernel⟩
theorem fpX5_9 : k_fldp 5 9 := ⟨(RX5, TX5, 17), tyX5, rfl, tyX5_ok, nmX5, rfl, by decide +kernel⟩
theorem fpX5_10 : k_fldp 5 10 := ⟨(RX5, TX5, 17), tyX5, rfl, tyX5_ok, nmX5, rfl, by decide +kernel⟩
theorem fpX5_11 : k_fldp 5 11 := ⟨(RX5, TX5, 17), tyX5, rfl, tyX5_ok, nmX5, rfl, by decide +kernel⟩
theorem fpX5_12 : k_fldp 5 12 := ⟨(RX5, TX5, 17), tyX5, rfl, tyX5_ok, nmX5, rfl, by decide +kernel⟩
theorem fpX5_13 : k_fldp 5 13 := ⟨(RX5, TX5, 17), tyX5, rfl, tyX5_ok, nmX5, rfl, by decide +kernel⟩
theorem fpX5_14 : k_fldp 5 14 := ⟨(RX5, TX5, 17), tyX5, rfl, tyX5_ok, nmX5, rfl, by decide +kernel⟩
theorem fpX5_15 : k_fldp 5 15 := ⟨(RX5, TX5, 17), tyX5, rfl, tyX5_ok, nmX5, rfl, by decide +kernel⟩
theorem fpX5_16 : k_fldp 5 16 := ⟨(RX5, TX5, 17), tyX5, rfl, tyX5_ok, nmX5, rfl, by decide +kernel⟩
theorem fpX7_4 : k_fldp 7 4 := ⟨(RX7, TX7, 10), tyX7, rfl, tyX7_ok, nmX7, rfl, by decide +kernel⟩
theorem fpX7_6 : k_fldp 7 6 := ⟨(RX7, TX7, 10), tyX7, rfl, tyX7_ok, nmX7, rfl, by decide +kernel⟩
theorem fpX7_7 : k_fldp 7 7 := ⟨(RX7, TX7, 10), tyX7, rfl, tyX7_ok, nmX7, rfl, by decide +kernel⟩
theorem fpX7_8 : k_fldp 7 8 := ⟨(RX7, TX7, 10), tyX7, rfl, tyX7_ok, nmX7, rfl, by decide +kernel⟩
theorem mwX0_takeFrom : k_mw yX0_takeFrom cX0_takeFrom 2 none 1 := ⟨lw_gm (i := 365) (by decide +kernel) rfl, lw_gm (i := 69) (by decide +kernel) rfl, by decide +kernel, by decide +kernel⟩
theorem iwX0_takeFrom : k_iw yX0_takeFrom := ⟨lw_gm (i := 363) (by decide +kernel) rfl, lw_gm (i := 364) (by decide +kernel) rfl⟩
theorem mwX1_hold : k_mw yX1_hold cX1_hold 2 none 1 := ⟨lw_gm (i := 346) (by decide +kernel) rfl, lw_gm (i := 71) (by decide +kernel) rfl, by decide +kernel, by decide +kernel⟩
theorem iwX1_hold : k_iw yX1_hold := ⟨lw_gm (i := 344) (by decide +kernel) rfl, lw_gm (i := 345) (by decide +kernel) rfl⟩
theorem mwX1_keepIfDone : k_mw yX1_keepIfDone cX1_keepIfDone 2 (some .int) 1 := ⟨lw_gm (i := 385) (by decide +kernel) rfl, lw_gm (i := 71) (by decide +kernel) rfl, by decide +kernel, by decide +kernel⟩
theorem iwX1_keepIfDone : k_iw yX1_keepIfDone := ⟨lw_gm (i := 383) (by decide +kernel) rfl, lw_gm (i := 384) (by decide +kernel) rfl⟩
theorem mwX1_restore : k_mw yX1_restore cX1_restore 2 (some .int) 1 := ⟨lw_gm (i := 748) (by decide +kernel) rfl, lw_gm (i := 71) (by decide +kernel) rfl, by decide +kernel, by decide +kernel⟩
theorem iwX1_restore : k_iw yX1_restore := ⟨lw_gm (i := 746) (by decide +kernel) rfl, lw_gm (i := 747) (by decide +kernel) rfl⟩
theorem mwX2_takeFrom : k_mw yX2_takeFrom cX2_takeFrom 2 none 1 := ⟨lw_gm (i := 361) (by decide +kernel) rfl, lw_gm (i := 68) (by decide +kernel) rfl, by decide +kernel, by decide +kernel⟩
theorem iwX2_takeFrom : k_iw yX2_takeFrom := ⟨lw_gm (i := 359) (by decide +kernel) rfl, lw_gm (i := 360) (by decide +kernel) rfl⟩
theorem mwX3_copyFrom : k_mw yX3_copyFrom cX3_copyFrom 2 none 1 := ⟨lw_gm (i := 350) (by decide +kernel) rfl, lw_gm (i := 67) (by decide +kernel) rfl, by decide +kernel, by decide +kernel⟩
theorem iwX3_copyFrom : k_iw yX3_copyFrom := ⟨lw_gm (i := 348) (by decide +kernel) rfl, lw_gm (i := 349) (by decide +kernel) rfl⟩
theorem mwX3_copyGrainFrom : k_mw yX3_copyGrainFrom cX3_copyGrainFrom 3 none 1 := ⟨lw_gm (i := 357) (by decide +kernel) rfl, lw_gm (i := 67) (by decide +kernel) rfl, by decide +kernel, by decide +kernel⟩
theorem iwX3_copyGrainFrom : k_iw yX3_copyGrainFrom := ⟨lw_gm (i := 356) (by decide +kernel) rfl, lw_gm (i := 0) (by decide +kernel) rfl⟩
theorem mwX3_hasKind : k_mw yX3_hasKind cX3_hasKind 2 (some .boolean) 1 := ⟨lw_gm (i := 443) (by decide +kernel) rfl, lw_gm (i := 67) (by decide +kernel) rfl, by decide +kernel, by decide +kernel⟩
theorem iwX3_hasKind : k_iw yX3_hasKind := ⟨lw_gm (i := 441) (by decide +kernel) rfl, lw_gm (i := 442) (by decide +kernel) rfl⟩
theorem mwX3_hasFarmer : k_mw yX3_hasFarmer cX3_hasFarmer 2 (some .boolean) 1 := ⟨lw_gm (i := 439) (by decide +kernel) rfl, lw_gm (i := 67) (by decide +kernel) rfl, by decide +kernel, by decide +kernel⟩
theorem iwX3_hasFarmer : k_iw yX3_hasFarmer := ⟨lw_gm (i := 437) (by decide +kernel) rfl, lw_gm (i := 438) (by decide +kernel) rfl⟩
theorem mwX3_hasSack : k_mw yX3_hasSack cX3_hasSack 2 (some .boolean) 1 := ⟨lw_gm (i := 463) (by decide +kernel) rfl, lw_gm (i := 67) (by decide +kernel) rfl, by decide +kernel, by decide +kernel⟩
theorem iwX3_hasSack : k_iw yX3_hasSack := ⟨lw_gm (i := 461) (by decide +kernel) rfl, lw_gm (i := 462) (by decide +kernel) rfl⟩
theorem mwX3_changeSetting : k_mw yX3_changeSetting cX3_changeSetting 4 (some .int) 2 := ⟨lw_gm (i := 373) (by decide +kernel) rfl, lw_gm (i := 67) (by decide +kernel) rfl, by decide +kernel, by decide +kernel⟩
theorem iwX3_changeSetting : k_iw yX3_changeSetting := ⟨lw_gm (i := 371) (by decide +kernel) rfl, lw_gm (i := 372) (by decide +kernel) rfl⟩
theorem mwX3_changeLeak : k_mw yX3_changeLeak cX3_changeLeak 4 (some .int) 2 := ⟨lw_gm (i := 393) (by decide +kernel) rfl, lw_gm (i := 67) (by decide +kernel) rfl, by decide +kernel, by decide +kernel⟩
theorem iwX3_changeLeak : k_iw yX3_changeLeak := ⟨lw_gm (i := 391) (by decide +kernel) rfl, lw_gm (i := 392) (by decide +kernel) rfl⟩
theorem mwX3_changeLock : k_mw yX3_changeLock cX3_changeLock 3 (some .int) 1 := ⟨lw_gm (i := 401) (by decide +kernel) rfl, lw_gm (i := 67) (by decide +kernel) rfl, by decide +kernel, by decide +kernel⟩
theorem iwX3_changeLock : k_iw yX3_changeLock := ⟨lw_gm (i := 399) (by decide +kernel) rfl, lw_gm (i := 400) (by decide +kernel) rfl⟩
theorem mwX3_changeOpening : k_mw yX3_changeOpening cX3_changeOpening 3 (some .int) 1 := ⟨lw_gm (i := 409) (by decide +kernel) rfl, lw_gm (i := 67) (by decide +kernel) rfl, by decide +kernel, by decide +kernel⟩
theorem iwX3_changeOpening : k_iw yX3_changeOpening := ⟨lw_gm (i := 407) (by decide +kernel) rfl, lw_gm (i := 408) (by decide +kernel) rfl⟩
theorem mwX3_addKind : k_mw yX3_addKind cX3_addKind 5 (some .int) 3 := ⟨lw_gm (i := 417) (by decide +kernel) rfl, lw_gm (i := 67) (by decide +kernel) rfl, by decide +kernel, by decide +kernel⟩
theorem iwX3_addKind : k_iw yX3_addKind := ⟨lw_gm (i := 415) (by decide +kernel) rfl, lw_gm (i := 416) (by decide +kernel) rfl⟩
theorem mwX3_addFarmer : k_mw yX3_addFarmer cX3_addFarmer 2 (some .int) 0 := ⟨lw_gm (i := 427) (by decide +kernel) rfl, lw_gm (i := 67) (by decide +kernel) rfl, by decide +kernel, by decide +kernel⟩
theorem iwX3_addFarmer : k_iw yX3_addFarmer := ⟨lw_gm (i := 425) (by decide +kernel) rfl, lw_gm (i := 426) (by decide +kernel) rfl⟩
theorem mwX3_addSack : k_mw yX3_addSack cX3_addSack 4 (some .int) 3 := ⟨lw_gm (i := 435) (by decide +kernel) rfl, lw_gm (i := 67) (by decide +kernel) rfl, by decide +kernel, by decide +kernel⟩
theorem iwX3_addSack : k_iw yX3_addSack := ⟨lw_gm (i := 433) (by decide +kernel) rfl, lw_gm (i := 434) (by decide +kernel) rfl⟩
theorem mwX3_withdrawSack : k_mw yX3_withdrawSack cX3_withdrawSack 3 (some .int) 1 := ⟨lw_gm (i := 459) (by decide +kernel) rfl, lw_gm (i := 67) (by decide +kernel) rfl, by decide +kernel, by decide +kernel⟩
theorem iwX3_withdrawSack : k_iw yX3_withdrawSack := ⟨lw_gm (i := 457) (by decide +kernel) rfl, lw_gm (i := 458) (by decide +kernel) rfl⟩
theorem mwX3_fetchSack : k_mw yX3_fetchSack cX3_fetchSack 3 (some .int) 1 := ⟨lw_gm (i := 476) (by decide +kernel) rfl, lw_gm (i := 67) (by decide +kernel) rfl, by decide +kernel, by decide +kernel⟩
theorem iwX3_fetchSack : k_iw yX3_fetchSack := ⟨lw_gm (i := 474) (by decide +kernel) rfl, lw_gm (i := 475) (by decide +kernel) rfl⟩
theorem mwX3_tellKind : k_mw yX3_tellKind cX3_tellKind 3 (some .int) 2 := ⟨lw_gm (i := 495) (by decide +kernel) rfl, lw_gm (i := 67) (by decide +kernel) rfl, by decide +kernel, by decide +kernel⟩
theorem iwX3_tellKind : k_iw yX3_tellKind := ⟨lw_gm (i := 493) (by decide +kernel) rfl, lw_gm (i := 494) (by decide +kernel) rfl⟩
theorem mwX3_tellFarmer : k_mw yX3_tellFarmer cX3_tellFarmer 3 (some .int) 2 := ⟨lw_gm (i := 522) (by decide +kernel) rfl, lw_gm (i := 67) (by decide +kernel) rfl, by decide +kernel, by decide +kernel⟩
theorem iwX3_tellFarmer : k_iw yX3_tellFarmer := ⟨lw_gm (i := 520) (by decide +kernel) rfl, lw_gm (i := 521) (by decide +kernel) rfl⟩
theorem mwX3_sumOf : k_mw yX3_sumOf cX3_sumOf 6 (some .int) 3 := ⟨lw_gm (i := 507) (by decide +kernel) rfl, lw_gm (i := 67) (by decide +kernel) rfl, by decide +kernel, by decide +kernel⟩
theorem iwX3_sumOf : k_iw yX3_sumOf := ⟨lw_gm (i := 505) (by decide +kernel) rfl, lw_gm (i := 506) (by decide +kernel) rfl⟩
theorem mwX3_sacksBrought : k_mw yX3_sacksBrought cX3_sacksBrought 5 (some .int) 2 := ⟨lw_gm (i := 499) (by decide +kernel) rfl, lw_gm (i := 67) (by decide +kernel) rfl, by decide +kernel, by decide +kernel⟩
theorem iwX3_sacksBrought : k_iw yX3_sacksBrought := ⟨lw_gm (i := 498) (by decide +kernel) rfl, lw_gm (i := 1) (by decide +kernel) rfl⟩
theorem mwX3_sacksInStage : k_mw yX3_sacksInStage cX3_sacksInStage 4 (some .int) 1 := ⟨lw_gm (i := 740) (by decide +kernel) rfl, lw_gm (i := 67) (by decide +kernel) rfl, by decide +kernel, by decide +kernel⟩
theorem iwX3_sacksInStage : k_iw yX3_sacksInStage := ⟨lw_gm (i := 739) (by decide +kernel) rfl, lw_gm (i := 16) (by decide +kernel) rfl⟩
theorem mwX3_placeInQueue : k_mw yX3_placeInQueue cX3_placeInQueue 4 (some .int) 1 := ⟨lw_gm (i := 535) (by decide +kernel) rfl, lw_gm (i := 67) (by decide +kernel) rfl, by decide +kernel, by decide +kernel⟩
theorem iwX3_placeInQueue : k_iw yX3_placeInQueue := ⟨lw_gm (i := 533) (by decide +kernel) rfl, lw_gm (i := 534) (by decide +kernel) rfl⟩
theorem mwX3_sackAtPlace : k_mw yX3_sackAtPlace cX3_sackAtPlace 3 (some .int) 1 := ⟨lw_gm (i := 553) (by decide +kernel) rfl, lw_gm (i := 67) (by decide +kernel) rfl, by decide +kernel, by decide +kernel⟩
theorem iwX3_sackAtPlace : k_iw yX3_sackAtPlace := ⟨lw_gm (i := 551) (by decide +kernel) rfl, lw_gm (i := 552) (by decide +kernel) rfl⟩
theorem mwX3_firstOfQueue : k_mw yX3_firstOfQueue cX3_firstOfQueue 5 (some .int) 0 := ⟨lw_gm (i := 677) (by decide +kernel) rfl, lw_gm (i := 67) (by decide +kernel) rfl, by decide +kernel, by decide +kernel⟩
theorem iwX3_firstOfQueue : k_iw yX3_firstOfQueue := ⟨lw_gm (i := 676) (by decide +kernel) rfl, lw_gm (i := 12) (by decide +kernel) rfl⟩
theorem mwX3_waitsAheadOf : k_mw yX3_waitsAheadOf cX3_waitsAheadOf 5 (some .boolean) 2 := ⟨lw_gm (i := 540) (by decide +kernel) rfl, lw_gm (i := 67) (by decide +kernel) rfl, by decide +kernel, by decide +kernel⟩
theorem iwX3_waitsAheadOf : k_iw yX3_waitsAheadOf := ⟨lw_gm (i := 539) (by decide +kernel) rfl, lw_gm (i := 3) (by decide +kernel) rfl⟩
theorem mwX3_rankInQueue : k_mw yX3_rankInQueue cX3_rankInQueue 2 (some .int) 1 := ⟨lw_gm (i := 544) (by decide +kernel) rfl, lw_gm (i := 67) (by decide +kernel) rfl, by decide +kernel, by decide +kernel⟩
theorem iwX3_rankInQueue : k_iw yX3_rankInQueue := ⟨lw_gm (i := 543) (by decide +kernel) rfl, lw_gm (i := 4) (by decide +kernel) rfl⟩
theorem mwX3_addPence : k_mw yX3_addPence cX3_addPence 4 (some .int) 2 := ⟨lw_gm (i := 567) (by decide +kernel) rfl, lw_gm (i := 67) (by decide +kernel) rfl, by decide +kernel, by decide +kernel⟩
theorem iwX3_addPence : k_iw yX3_addPence := ⟨lw_gm (i := 565) (by decide +kernel) rfl, lw_gm (i := 566) (by decide +kernel) rfl⟩
theorem mwX3_putInPledge : k_mw yX3_putInPledge cX3_putInPledge 6 (some .int) 2 := ⟨lw_gm (i := 577) (by decide +kernel) rfl, lw_gm (i := 67) (by decide +kernel) rfl, by decide +kernel, by decide +kernel⟩
theorem iwX3_putInPledge : k_iw yX3_putInPledge := ⟨lw_gm (i := 575) (by decide +kernel) rfl, lw_gm (i := 576) (by decide +kernel) rfl⟩
theorem mwX3_loanFor : k_mw yX3_loanFor cX3_loanFor 7 (some .int) 2 := ⟨lw_gm (i := 581) (by decide +kernel) rfl, lw_gm (i := 67) (by decide +kernel) rfl, by decide +kernel, by decide +kernel⟩
theorem iwX3_loanFor : k_iw yX3_loanFor := ⟨lw_gm (i := 580) (by decide +kernel) rfl, lw_gm (i := 5) (by decide +kernel) rfl⟩
theorem mwX3_debtOf : k_mw yX3_debtOf cX3_debtOf 8 (some .int) 1 := ⟨lw_gm (i := 595) (by decide +kernel) rfl, lw_gm (i := 67) (by decide +kernel) rfl, by decide +kernel, by decide +kernel⟩
theorem iwX3_debtOf : k_iw yX3_debtOf := ⟨lw_gm (i := 593) (by decide +kernel) rfl, lw_gm (i := 594) (by decide +kernel) rfl⟩
theorem mwX3_redeemPledge : k_mw yX3_redeemPledge cX3_redeemPledge 5 (some .int) 1 := ⟨lw_gm (i := 606) (by decide +kernel) rfl, lw_gm (i := 67) (by decide +kernel) rfl, by decide +kernel, by decide +kernel⟩
theorem iwX3_redeemPledge : k_iw yX3_redeemPledge := ⟨lw_gm (i := 604) (by decide +kernel) rfl, lw_gm (i := 605) (by decide +kernel) rfl⟩
theorem mwX3_sackOfPledge : k_mw yX3_sackOfPledge cX3_sackOfPledge 3 (some .int) 1 := ⟨lw_gm (i := 616) (by decide +kernel) rfl, lw_gm (i := 67) (by decide +kernel) rfl, by decide +kernel, by decide +kernel⟩
theorem iwX3_sackOfPledge : k_iw yX3_sackOfPledge := ⟨lw_gm (i := 614) (by decide +kernel) rfl, lw_gm (i := 615) (by decide +kernel) rfl⟩
theorem mwX3_pledgesAheadOf : k_mw yX3_pledgesAheadOf cX3_pledgesAheadOf 6 (some .int) 1 := ⟨lw_gm (i := 620) (by decide +kernel) rfl, lw_gm (i := 67) (by decide +kernel) rfl, by decide +kernel, by decide +kernel⟩
theorem iwX3_pledgesAheadOf : k_iw yX3_pledgesAheadOf := ⟨lw_gm (i := 619) (by decide +kernel) rfl, lw_gm (i := 6) (by decide +kernel) rfl⟩
theorem mwX3_tellPledge : k_mw yX3_tellPledge cX3_tellPledge 4 (some .int) 2 := ⟨lw_gm (i := 624) (by decide +kernel) rfl, lw_gm (i := 67) (by decide +kernel) rfl, by decide +kernel, by decide +kernel⟩
theorem iwX3_tellPledge : k_iw yX3_tellPledge := ⟨lw_gm (i := 622) (by decide +kernel) rfl, lw_gm (i := 623) (by decide +kernel) rfl⟩
theorem mwX3_pledgesOf : k_mw yX3_pledgesOf cX3_pledgesOf 4 (some .int) 1 := ⟨lw_gm (i := 526) (by decide +kernel) rfl, lw_gm (i := 67) (by decide +kernel) rfl, by decide +kernel, by decide +kernel⟩
theorem iwX3_pledgesOf : k_iw yX3_pledgesOf := ⟨lw_gm (i := 525) (by decide +kernel) rfl, lw_gm (i := 2) (by decide +kernel) rfl⟩
theorem mwX3_dropOldPledges : k_mw yX3_dropOldPledges cX3_dropOldPledges 2 none 0 := ⟨lw_gm (i := 640) (by decide +kernel) rfl, lw_gm (i := 67) (by decide +kernel) rfl, by decide +kernel, by decide +kernel⟩
theorem iwX3_dropOldPledges : k_iw yX3_dropOldPledges := ⟨lw_gm (i := 639) (by decide +kernel) rfl, lw_gm (i := 7) (by decide +kernel) rfl⟩
theorem mwX3_today : k_mw yX3_today cX3_today 1 (some .int) 0 := ⟨lw_gm (i := 586) (by decide +kernel) rfl, lw_gm (i := 67) (by decide +kernel) rfl, by decide +kernel, by decide +kernel⟩
theorem iwX3_today : k_iw yX3_today := ⟨lw_gm (i := 584) (by decide +kernel) rfl, lw_gm (i := 585) (by decide +kernel) rfl⟩
theorem mwX3_letPass : k_mw yX3_letPass cX3_letPass 3 (some .int) 1 := ⟨lw_gm (i := 632) (by decide +kernel) rfl, lw_gm (i := 67) (by decide +kernel) rfl, by decide +kernel, by decide +kernel⟩
theorem iwX3_letPass : k_iw yX3_letPass := ⟨lw_gm (i := 630) (by decide +kernel) rfl, lw_gm (i := 631) (by decide +kernel) rfl⟩
theorem mwX3_step : k_mw yX3_step cX3_step 2 none 0 := ⟨lw_gm (i := 636) (by decide +kernel) rfl, lw_gm (i := 67) (by decide +kernel) rfl, by decide +kernel, by decide +kernel⟩
theorem iwX3_step : k_iw yX3_step := ⟨lw_gm (i := 634) (by decide +kernel) rfl, lw_gm (i := 635) (by decide +kernel) rfl⟩
theorem mwX3_seaAt : k_mw yX3_seaAt cX3_seaAt 8 (some .int) 1 := ⟨lw_gm (i := 648) (by decide +kernel) rfl, lw_gm (i := 67) (by decide +kernel) rfl, by decide +kernel, by decide +kernel⟩
theorem iwX3_seaAt : k_iw yX3_seaAt := ⟨lw_gm (i := 646) (by decide +kernel) rfl, lw_gm (i := 647) (by decide +kernel) rfl⟩
theorem mwX3_stepsToHigh : k_mw yX3_stepsToHigh cX3_stepsToHigh 4 (some .int) 0 := ⟨lw_gm (i := 705) (by decide +kernel) rfl, lw_gm (i := 67) (by decide +kernel) rfl, by decide +kernel, by decide +kernel⟩
theorem iwX3_stepsToHigh : k_iw yX3_stepsToHigh := ⟨lw_gm (i := 703) (by decide +kernel) rfl, lw_gm (i := 704) (by decide +kernel) rfl⟩
theorem mwX3_level : k_mw yX3_level cX3_level 1 (some .int) 0 := ⟨lw_gm (i := 662) (by decide +kernel) rfl, lw_gm (i := 67) (by decide +kernel) rfl, by decide +kernel, by decide +kernel⟩
theorem iwX3_level : k_iw yX3_level := ⟨lw_gm (i := 661) (by decide +kernel) rfl, lw_gm (i := 9) (by decide +kernel) rfl⟩
theorem mwX3_flowIn : k_mw yX3_flowIn cX3_flowIn 4 none 1 := ⟨lw_gm (i := 658) (by decide +kernel) rfl, lw_gm (i := 67) (by decide +kernel) rfl, by decide +kernel, by decide +kernel⟩
theorem iwX3_flowIn : k_iw yX3_flowIn := ⟨lw_gm (i := 657) (by decide +kernel) rfl, lw_gm (i := 8) (by decide +kernel) rfl⟩
theorem mwX3_leakOut : k_mw yX3_leakOut cX3_leakOut 5 none 1 := ⟨lw_gm (i := 669) (by decide +kernel) rfl, lw_gm (i := 67) (by decide +kernel) rfl, by decide +kernel, by decide +kernel⟩
theorem iwX3_leakOut : k_iw yX3_leakOut := ⟨lw_gm (i := 668) (by decide +kernel) rfl, lw_gm (i := 10) (by decide +kernel) rfl⟩
theorem mwX3_grind : k_mw yX3_grind cX3_grind 4 none 1 := ⟨lw_gm (i := 673) (by decide +kernel) rfl, lw_gm (i := 67) (by decide +kernel) rfl, by decide +kernel, by decide +kernel⟩
theorem iwX3_grind : k_iw yX3_grind := ⟨lw_gm (i := 672) (by decide +kernel) rfl, lw_gm (i := 11) (by decide +kernel) rfl⟩
theorem mwX3_putOnStones : k_mw yX3_putOnStones cX3_putOnStones 3 none 1 := ⟨lw_gm (i := 681) (by decide +kernel) rfl, lw_gm (i := 67) (by decide +kernel) rfl, by decide +kernel, by decide +kernel⟩
theorem iwX3_putOnStones : k_iw yX3_putOnStones := ⟨lw_gm (i := 680) (by decide +kernel) rfl, lw_gm (i := 13) (by decide +kernel) rfl⟩
theorem mwX3_grindSack : k_mw yX3_grindSack cX3_grindSack 4 none 2 := ⟨lw_gm (i := 685) (by decide +kernel) rfl, lw_gm (i := 67) (by decide +kernel) rfl, by decide +kernel, by decide +kernel⟩
theorem iwX3_grindSack : k_iw yX3_grindSack := ⟨lw_gm (i := 684) (by decide +kernel) rfl, lw_gm (i := 14) (by decide +kernel) rfl⟩
theorem mwX3_tellPond : k_mw yX3_tellPond cX3_tellPond 2 (some .int) 1 := ⟨lw_gm (i := 713) (by decide +kernel) rfl, lw_gm (i := 67) (by decide +kernel) rfl, by decide +kernel, by decide +kernel⟩
theorem iwX3_tellPond : k_iw yX3_tellPond := ⟨lw_gm (i := 711) (by decide +kernel) rfl, lw_gm (i := 712) (by decide +kernel) rfl⟩
theorem mwX3_countOf : k_mw yX3_countOf cX3_countOf 2 (some .int) 1 := ⟨lw_gm (i := 736) (by decide +kernel) rfl, lw_gm (i := 67) (by decide +kernel) rfl, by decide +kernel, by decide +kernel⟩
theorem iwX3_countOf : k_iw yX3_countOf := ⟨lw_gm (i := 734) (by decide +kernel) rfl, lw_gm (i := 735) (by decide +kernel) rfl⟩
theorem mwX4_append : k_mw yX4_append cX4_append 2 (some .int) 1 := ⟨lw_gm (i := 757) (by decide +kernel) rfl, lw_gm (i := 72) (by decide +kernel) rfl, by decide +kernel, by decide +kernel⟩
theorem iwX4_append : k_iw yX4_append := ⟨lw_gm (i := 755) (by decide +kernel) rfl, lw_gm (i := 756) (by decide +kernel) rfl⟩
theorem mwX4_empty : k_mw yX4_empty cX4_empty 2 (some .int) 0 := ⟨lw_gm (i := 766) (by decide +kernel) rfl, lw_gm (i := 72) (by decide +kernel) rfl, by decide +kernel, by decide +kernel⟩
theorem iwX4_empty : k_iw yX4_empty := ⟨lw_gm (i := 764) (by decide +kernel) rfl, lw_gm (i := 765) (by decide +kernel) rfl⟩
theorem mwX4_doAll : k_mw yX4_doAll cX4_doAll 3 none 1 := ⟨lw_gm (i := 774) (by decide +kernel) rfl, lw_gm (i := 72) (by decide +kernel) rfl, by decide +kernel, by decide +kernel⟩
theorem iwX4_doAll : k_iw yX4_doAll := ⟨lw_gm (i := 772) (by decide +kernel) rfl, lw_gm (i := 773) (by decide +kernel) rfl⟩
theorem mwX4_readOrder : k_mw yX4_readOrder cX4_readOrder 3 (some .boolean) 0 := ⟨lw_gm (i := 778) (by decide +kernel) rfl, lw_gm (i := 72) (by decide +kernel) rfl, by decide +kernel, by decide +kernel⟩
theorem iwX4_readOrder : k_iw yX4_readOrder := ⟨lw_gm (i := 777) (by decide +kernel) rfl, lw_gm (i := 17) (by decide +kernel) rfl⟩
theorem mwX4_numbersAfter : k_mw yX4_numbersAfter cX4_numbersAfter 1 (some .int) 1 := ⟨lw_gm (i := 781) (by decide +kernel) rfl, lw_gm (i := 72) (by decide +kernel) rfl, by decide +kernel, by decide +kernel⟩
theorem swX4_numbersAfter : Cond.static yX4_numbersAfter ∈ lw_g := lw_gm (i := 780) (by decide +kernel) rfl
theorem mwX4_readSign : k_mw yX4_readSign cX4_readSign 2 (some .boolean) 1 := ⟨lw_gm (i := 785) (by decide +kernel) rfl, lw_gm (i := 72) (by decide +kernel) rfl, by decide +kernel, by decide +kernel⟩
theorem iwX4_readSign : k_iw yX4_readSign := ⟨lw_gm (i := 784) (by decide +kernel) rfl, lw_gm (i := 18) (by decide +kernel) rfl⟩
theorem mwX4_readNumber : k_mw yX4_readNumber cX4_readNumber 4 (some .boolean) 1 := ⟨lw_gm (i := 789) (by decide +kernel) rfl, lw_gm (i := 72) (by decide +kernel) rfl, by decide +kernel, by decide +kernel⟩
theorem iwX4_readNumber : k_iw yX4_readNumber := ⟨lw_gm (i := 788) (by decide +kernel) rfl, lw_gm (i := 19) (by decide +kernel) rfl⟩
theorem mwX4_doOrder : k_mw yX4_doOrder cX4_doOrder 2 (some .int) 1 := ⟨lw_gm (i := 794) (by decide +kernel) rfl, lw_gm (i := 72) (by decide +kernel) rfl, by decide +kernel, by decide +kernel⟩
theorem iwX4_doOrder : k_iw yX4_doOrder := ⟨lw_gm (i := 793) (by decide +kernel) rfl, lw_gm (i := 20) (by decide +kernel) rfl⟩
theorem mwX4_isKnown : k_mw yX4_isKnown cX4_isKnown 2 (some .boolean) 1 := ⟨lw_gm (i := 798) (by decide +kernel) rfl, lw_gm (i := 72) (by decide +kernel) rfl, by decide +kernel, by decide +kernel⟩
theorem iwX4_isKnown : k_iw yX4_isKnown := ⟨lw_gm (i := 797) (by decide +kernel) rfl, lw_gm (i := 21) (by decide +kernel) rfl⟩
theorem mwX4_answerOf : k_mw yX4_answerOf cX4_answerOf 2 (some .int) 1 := ⟨lw_gm (i := 805) (by decide +kernel) rfl, lw_gm (i := 72) (by decide +kernel) rfl, by decide +kernel, by decide +kernel⟩
theorem iwX4_answerOf : k_iw yX4_answerOf := ⟨lw_gm (i := 804) (by decide +kernel) rfl, lw_gm (i := 22) (by decide +kernel) rfl⟩
theorem mwX5_takeFrom : k_mw yX5_takeFrom cX5_takeFrom 2 none 1 := ⟨lw_gm (i := 369) (by decide +kernel) rfl, lw_gm (i := 70) (by decide +kernel) rfl, by decide +kernel, by decide +kernel⟩
theorem iwX5_takeFrom : k_iw yX5_takeFrom := ⟨lw_gm (i := 367) (by decide +kernel) rfl, lw_gm (i := 368) (by decide +kernel) rfl⟩
theorem mwX5_begin : k_mw yX5_begin cX5_begin 5 none 4 := ⟨lw_gm (i := 447) (by decide +kernel) rfl, lw_gm (i := 70) (by decide +kernel) rfl, by decide +kernel, by decide +kernel⟩
theorem iwX5_begin : k_iw yX5_begin := ⟨lw_gm (i := 445) (by decide +kernel) rfl, lw_gm (i := 446) (by decide +kernel) rfl⟩
theorem mwX5_addGround : k_mw yX5_addGround cX5_addGround 2 none 1 := ⟨lw_gm (i := 692) (by decide +kernel) rfl, lw_gm (i := 70) (by decide +kernel) rfl, by decide +kernel, by decide +kernel⟩
theorem iwX5_addGround : k_iw yX5_addGround := ⟨lw_gm (i := 690) (by decide +kernel) rfl, lw_gm (i := 691) (by decide +kernel) rfl⟩
theorem mwX5_endPledge : k_mw yX5_endPledge cX5_endPledge 1 none 0 := ⟨lw_gm (i := 451) (by decide +kernel) rfl, lw_gm (i := 70) (by decide +kernel) rfl, by decide +kernel, by decide +kernel⟩
theorem iwX5_endPledge : k_iw yX5_endPledge := ⟨lw_gm (i := 449) (by decide +kernel) rfl, lw_gm (i := 450) (by decide +kernel) rfl⟩
theorem mwX5_fall : k_mw yX5_fall cX5_fall 1 none 0 := ⟨lw_gm (i := 644) (by decide +kernel) rfl, lw_gm (i := 70) (by decide +kernel) rfl, by decide +kernel, by decide +kernel⟩
theorem iwX5_fall : k_iw yX5_fall := ⟨lw_gm (i := 642) (by decide +kernel) rfl, lw_gm (i := 643) (by decide +kernel) rfl⟩
theorem mwX5_hasPledge : k_mw yX5_hasPledge cX5_hasPledge 1 (some .boolean) 0 := ⟨lw_gm (i := 480) (by decide +kernel) rfl, lw_gm (i := 70) (by decide +kernel) rfl, by decide +kernel, by decide +kernel⟩
theorem iwX5_hasPledge : k_iw yX5_hasPledge := ⟨lw_gm (i := 478) (by decide +kernel) rfl, lw_gm (i := 479) (by decide +kernel) rfl⟩
theorem mwX5_grain : k_mw yX5_grain cX5_grain 1 (some .int) 0 := ⟨lw_gm (i := 468) (by decide +kernel) rfl, lw_gm (i := 70) (by decide +kernel) rfl, by decide +kernel, by decide +kernel⟩
theorem iwX5_grain : k_iw yX5_grain := ⟨lw_gm (i := 466) (by decide +kernel) rfl, lw_gm (i := 467) (by decide +kernel) rfl⟩
theorem mwX5_flour : k_mw yX5_flour cX5_flour 1 (some .int) 0 := ⟨lw_gm (i := 484) (by decide +kernel) rfl, lw_gm (i := 70) (by decide +kernel) rfl, by decide +kernel, by decide +kernel⟩
theorem iwX5_flour : k_iw yX5_flour := ⟨lw_gm (i := 482) (by decide +kernel) rfl, lw_gm (i := 483) (by decide +kernel) rfl⟩
theorem mwX5_isOf : k_mw yX5_isOf cX5_isOf 3 (some .boolean) 2 := ⟨lw_gm (i := 503) (by decide +kernel) rfl, lw_gm (i := 70) (by decide +kernel) rfl, by decide +kernel, by decide +kernel⟩
theorem iwX5_isOf : k_iw yX5_isOf := ⟨lw_gm (i := 501) (by decide +kernel) rfl, lw_gm (i := 502) (by decide +kernel) rfl⟩
theorem mwX5_tell : k_mw yX5_tell cX5_tell 2 (some .int) 1 := ⟨lw_gm (i := 511) (by decide +kernel) rfl, lw_gm (i := 70) (by decide +kernel) rfl, by decide +kernel, by decide +kernel⟩
theorem iwX5_tell : k_iw yX5_tell := ⟨lw_gm (i := 509) (by decide +kernel) rfl, lw_gm (i := 510) (by decide +kernel) rfl⟩
theorem mwX6_set : k_mw yX6_set cX6_set 3 (some .int) 2 := ⟨lw_gm (i := 342) (by decide +kernel) rfl, lw_gm (i := 66) (by decide +kernel) rfl, by decide +kernel, by decide +kernel⟩
theorem iwX6_set : k_iw yX6_set := ⟨lw_gm (i := 340) (by decide +kernel) rfl, lw_gm (i := 341) (by decide +kernel) rfl⟩
theorem mwX6_leak : k_mw yX6_leak cX6_leak 3 (some .int) 2 := ⟨lw_gm (i := 389) (by decide +kernel) rfl, lw_gm (i := 66) (by decide +kernel) rfl, by decide +kernel, by decide +kernel⟩
theorem iwX6_leak : k_iw yX6_leak := ⟨lw_gm (i := 387) (by decide +kernel) rfl, lw_gm (i := 388) (by decide +kernel) rfl⟩
theorem mwX6_lock : k_mw yX6_lock cX6_lock 2 (some .int) 1 := ⟨lw_gm (i := 397) (by decide +kernel) rfl, lw_gm (i := 66) (by decide +kernel) rfl, by decide +kernel, by decide +kernel⟩
theorem iwX6_lock : k_iw yX6_lock := ⟨lw_gm (i := 395) (by decide +kernel) rfl, lw_gm (i := 396) (by decide +kernel) rfl⟩
theorem mwX6_gate : k_mw yX6_gate cX6_gate 2 (some .int) 1 := ⟨lw_gm (i := 405) (by decide +kernel) rfl, lw_gm (i := 66) (by decide +kernel) rfl, by decide +kernel, by decide +kernel⟩
theorem iwX6_gate : k_iw yX6_gate := ⟨lw_gm (i := 403) (by decide +kernel) rfl, lw_gm (i := 404) (by decide +kernel) rfl⟩
theorem mwX6_kind : k_mw yX6_kind cX6_kind 4 (some .int) 3 := ⟨lw_gm (i := 413) (by decide +kernel) rfl, lw_gm (i := 66) (by decide +kernel) rfl, by decide +kernel, by decide +kernel⟩
theorem iwX6_kind : k_iw yX6_kind := ⟨lw_gm (i := 411) (by decide +kernel) rfl, lw_gm (i := 412) (by decide +kernel) rfl⟩
theorem mwX6_farmer : k_mw yX6_farmer cX6_farmer 1 (some .int) 0 := ⟨lw_gm (i := 423) (by decide +kernel) rfl, lw_gm (i := 66) (by decide +kernel) rfl, by decide +kernel, by decide +kernel⟩
theorem iwX6_farmer : k_iw yX6_farmer := ⟨lw_gm (i := 421) (by decide +kernel) rfl, lw_gm (i := 422) (by decide +kernel) rfl⟩
theorem mwX6_bring : k_mw yX6_bring cX6_bring 4 (some .int) 3 := ⟨lw_gm (i := 431) (by decide +kernel) rfl, lw_gm (i := 66) (by decide +kernel) rfl, by decide +kernel, by decide +kernel⟩
theorem iwX6_bring : k_iw yX6_bring := ⟨lw_gm (i := 429) (by decide +kernel) rfl, lw_gm (i := 430) (by decide +kernel) rfl⟩
theorem mwX6_withdraw : k_mw yX6_withdraw cX6_withdraw 2 (some .int) 1 := ⟨lw_gm (i := 455) (by decide +kernel) rfl, lw_gm (i := 66) (by decide +kernel) rfl, by decide +kernel, by decide +kernel⟩
theorem iwX6_withdraw : k_iw yX6_withdraw := ⟨lw_gm (i := 453) (by decide +kernel) rfl, lw_gm (i := 454) (by decide +kernel) rfl⟩
theorem mwX6_fetch : k_mw yX6_fetch cX6_fetch 2 (some .int) 1 := ⟨lw_gm (i := 472) (by decide +kernel) rfl, lw_gm (i := 66) (by decide +kernel) rfl, by decide +kernel, by decide +kernel⟩
theorem iwX6_fetch : k_iw yX6_fetch := ⟨lw_gm (i := 470) (by decide +kernel) rfl, lw_gm (i := 471) (by decide +kernel) rfl⟩
theorem mwX6_kindOf : k_mw yX6_kindOf cX6_kindOf 3 (some .int) 2 := ⟨lw_gm (i := 488) (by decide +kernel) rfl, lw_gm (i := 66) (by decide +kernel) rfl, by decide +kernel, by decide +kernel⟩
theorem iwX6_kindOf : k_iw yX6_kindOf := ⟨lw_gm (i := 486) (by decide +kernel) rfl, lw_gm (i := 487) (by decide +kernel) rfl⟩
theorem mwX6_farmerOf : k_mw yX6_farmerOf cX6_farmerOf 3 (some .int) 2 := ⟨lw_gm (i := 517) (by decide +kernel) rfl, lw_gm (i := 66) (by decide +kernel) rfl, by decide +kernel, by decide +kernel⟩
theorem iwX6_farmerOf : k_iw yX6_farmerOf := ⟨lw_gm (i := 515) (by decide +kernel) rfl, lw_gm (i := 516) (by decide +kernel) rfl⟩
theorem mwX6_sackOf : k_mw yX6_sackOf cX6_sackOf 3 (some .int) 2 := ⟨lw_gm (i := 530) (by decide +kernel) rfl, lw_gm (i := 66) (by decide +kernel) rfl, by decide +kernel, by decide +kernel⟩
theorem iwX6_sackOf : k_iw yX6_sackOf := ⟨lw_gm (i := 528) (by decide +kernel) rfl, lw_gm (i := 529) (by decide +kernel) rfl⟩
theorem mwX6_queueAt : k_mw yX6_queueAt cX6_queueAt 2 (some .int) 1 := ⟨lw_gm (i := 549) (by decide +kernel) rfl, lw_gm (i := 66) (by decide +kernel) rfl, by decide +kernel, by decide +kernel⟩
theorem iwX6_queueAt : k_iw yX6_queueAt := ⟨lw_gm (i := 547) (by decide +kernel) rfl, lw_gm (i := 548) (by decide +kernel) rfl⟩
theorem mwX6_account : k_mw yX6_account cX6_account 5 (some .int) 3 := ⟨lw_gm (i := 558) (by decide +kernel) rfl, lw_gm (i := 66) (by decide +kernel) rfl, by decide +kernel, by decide +kernel⟩
theorem iwX6_account : k_iw yX6_account := ⟨lw_gm (i := 556) (by decide +kernel) rfl, lw_gm (i := 557) (by decide +kernel) rfl⟩
theorem mwX6_earn : k_mw yX6_earn cX6_earn 3 (some .int) 2 := ⟨lw_gm (i := 563) (by decide +kernel) rfl, lw_gm (i := 66) (by decide +kernel) rfl, by decide +kernel, by decide +kernel⟩
theorem iwX6_earn : k_iw yX6_earn := ⟨lw_gm (i := 561) (by decide +kernel) rfl, lw_gm (i := 562) (by decide +kernel) rfl⟩
theorem mwX6_pledge : k_mw yX6_pledge cX6_pledge 3 (some .int) 2 := ⟨lw_gm (i := 573) (by decide +kernel) rfl, lw_gm (i := 66) (by decide +kernel) rfl, by decide +kernel, by decide +kernel⟩
theorem iwX6_pledge : k_iw yX6_pledge := ⟨lw_gm (i := 571) (by decide +kernel) rfl, lw_gm (i := 572) (by decide +kernel) rfl⟩
theorem mwX6_owed : k_mw yX6_owed cX6_owed 2 (some .int) 1 := ⟨lw_gm (i := 590) (by decide +kernel) rfl, lw_gm (i := 66) (by decide +kernel) rfl, by decide +kernel, by decide +kernel⟩
theorem iwX6_owed : k_iw yX6_owed := ⟨lw_gm (i := 588) (by decide +kernel) rfl, lw_gm (i := 589) (by decide +kernel) rfl⟩
theorem mwX6_redeem : k_mw yX6_redeem cX6_redeem 2 (some .int) 1 := ⟨lw_gm (i := 602) (by decide +kernel) rfl, lw_gm (i := 66) (by decide +kernel) rfl, by decide +kernel, by decide +kernel⟩
theorem iwX6_redeem : k_iw yX6_redeem := ⟨lw_gm (i := 600) (by decide +kernel) rfl, lw_gm (i := 601) (by decide +kernel) rfl⟩
theorem mwX6_pledgeAt : k_mw yX6_pledgeAt cX6_pledgeAt 4 (some .int) 2 := ⟨lw_gm (i := 612) (by decide +kernel) rfl, lw_gm (i := 66) (by decide +kernel) rfl, by decide +kernel, by decide +kernel⟩
theorem iwX6_pledgeAt : k_iw yX6_pledgeAt := ⟨lw_gm (i := 610) (by decide +kernel) rfl, lw_gm (i := 611) (by decide +kernel) rfl⟩
theorem mwX6_pass : k_mw yX6_pass cX6_pass 2 (some .int) 1 := ⟨lw_gm (i := 628) (by decide +kernel) rfl, lw_gm (i := 66) (by decide +kernel) rfl, by decide +kernel, by decide +kernel⟩
theorem iwX6_pass : k_iw yX6_pass := ⟨lw_gm (i := 626) (by decide +kernel) rfl, lw_gm (i := 627) (by decide +kernel) rfl⟩
theorem mwX6_seaIn : k_mw yX6_seaIn cX6_seaIn 2 (some .int) 1 := ⟨lw_gm (i := 696) (by decide +kernel) rfl, lw_gm (i := 66) (by decide +kernel) rfl, by decide +kernel, by decide +kernel⟩
theorem iwX6_seaIn : k_iw yX6_seaIn := ⟨lw_gm (i := 694) (by decide +kernel) rfl, lw_gm (i := 695) (by decide +kernel) rfl⟩
theorem mwX6_nextHigh : k_mw yX6_nextHigh cX6_nextHigh 1 (some .int) 0 := ⟨lw_gm (i := 701) (by decide +kernel) rfl, lw_gm (i := 66) (by decide +kernel) rfl, by decide +kernel, by decide +kernel⟩
theorem iwX6_nextHigh : k_iw yX6_nextHigh := ⟨lw_gm (i := 699) (by decide +kernel) rfl, lw_gm (i := 700) (by decide +kernel) rfl⟩
theorem mwX6_pond : k_mw yX6_pond cX6_pond 2 (some .int) 1 := ⟨lw_gm (i := 709) (by decide +kernel) rfl, lw_gm (i := 66) (by decide +kernel) rfl, by decide +kernel, by decide +kernel⟩
theorem iwX6_pond : k_iw yX6_pond := ⟨lw_gm (i := 707) (by decide +kernel) rfl, lw_gm (i := 708) (by decide +kernel) rfl⟩
theorem mwX6_foresee : k_mw yX6_foresee cX6_foresee 3 (some .int) 1 := ⟨lw_gm (i := 717) (by decide +kernel) rfl, lw_gm (i := 66) (by decide +kernel) rfl, by decide +kernel, by decide +kernel⟩
theorem iwX6_foresee : k_iw yX6_foresee := ⟨lw_gm (i := 715) (by decide +kernel) rfl, lw_gm (i := 716) (by decide +kernel) rfl⟩
theorem mwX6_bestGate : k_mw yX6_bestGate cX6_bestGate 6 (some .int) 1 := ⟨lw_gm (i := 724) (by decide +kernel) rfl, lw_gm (i := 66) (by decide +kernel) rfl, by decide +kernel, by decide +kernel⟩
theorem iwX6_bestGate : k_iw yX6_bestGate := ⟨lw_gm (i := 722) (by decide +kernel) rfl, lw_gm (i := 723) (by decide +kernel) rfl⟩
theorem mwX6_count : k_mw yX6_count cX6_count 2 (some .int) 1 := ⟨lw_gm (i := 732) (by decide +kernel) rfl, lw_gm (i := 66) (by decide +kernel) rfl, by decide +kernel, by decide +kernel⟩
theorem iwX6_count : k_iw yX6_count := ⟨lw_gm (i := 730) (by decide +kernel) rfl, lw_gm (i := 731) (by decide +kernel) rfl⟩
theorem mwX6_undo : k_mw yX6_undo cX6_undo 1 (some .int) 0 := ⟨lw_gm (i := 744) (by decide +kernel) rfl, lw_gm (i := 66) (by decide +kernel) rfl, by decide +kernel, by decide +kernel⟩
theorem iwX6_undo : k_iw yX6_undo := ⟨lw_gm (i := 742) (by decide +kernel) rfl, lw_gm (i := 743) (by decide +kernel) rfl⟩
theorem mwX6_type : k_mw yX6_type cX6_type 2 (some .int) 1 := ⟨lw_gm (i := 753) (by decide +kernel) rfl, lw_gm (i := 66) (by decide +kernel) rfl, by decide +kernel, by decide +kernel⟩
theorem iwX6_type : k_iw yX6_type := ⟨lw_gm (i := 751) (by decide +kernel) rfl, lw_gm (i := 752) (by decide +kernel) rfl⟩
theorem mwX6_clearText : k_mw yX6_clearText cX6_clearText 1 (some .int) 0 := ⟨lw_gm (i := 762) (by decide +kernel) rfl, lw_gm (i := 66) (by decide +kernel) rfl, by decide +kernel, by decide +kernel⟩
theorem iwX6_clearText : k_iw yX6_clearText := ⟨lw_gm (i := 760) (by decide +kernel) rfl, lw_gm (i := 761) (by decide +kernel) rfl⟩
theorem mwX6_fault : k_mw yX6_fault cX6_fault 2 (some .int) 1 := ⟨lw_gm (i := 770) (by decide +kernel) rfl, lw_gm (i := 66) (by decide +kernel) rfl, by decide +kernel, by decide +kernel⟩
theorem iwX6_fault : k_iw yX6_fault := ⟨lw_gm (i := 768) (by decide +kernel) rfl, lw_gm (i := 769) (by decide +kernel) rfl⟩
theorem mwX6_play : k_mw yX6_play cX6_play 1 (some .int) 0 := ⟨lw_gm (i := 814) (by decide +kernel) rfl, lw_gm (i := 66) (by decide +kernel) rfl, by decide +kernel, by decide +kernel⟩
theorem iwX6_play : k_iw yX6_play := ⟨lw_gm (i := 812) (by decide +kernel) rfl, lw_gm (i := 813) (by decide +kernel) rfl⟩
theorem mwX6_groundBy : k_mw yX6_groundBy cX6_groundBy 4 (some .int) 2 := ⟨lw_gm (i := 728) (by decide +kernel) rfl, lw_gm (i := 66) (by decide +kernel) rfl, by decide +kernel, by decide +kernel⟩
theorem iwX6_groundBy : k_iw yX6_groundBy := ⟨lw_gm (i := 727) (by decide +kernel) rfl, lw_gm (i := 15) (by decide +kernel) rfl⟩
theorem mwX6_within : k_mw yX6_within cX6_within 3 (some .boolean) 3 := ⟨lw_gm (i := 376) (by decide +kernel) rfl, lw_gm (i := 66) (by decide +kernel) rfl, by decide +kernel, by decide +kernel⟩
theorem swX6_within : Cond.static yX6_within ∈ lw_g := lw_gm (i := 375) (by decide +kernel) rfl
theorem mwX6_quotient : k_mw yX6_quotient cX6_quotient 2 (some .int) 2 := ⟨lw_gm (i := 651) (by decide +kernel) rfl, lw_gm (i := 66) (by decide +kernel) rfl, by decide +kernel, by decide +kernel⟩
theorem swX6_quotient : Cond.static yX6_quotient ∈ lw_g := lw_gm (i := 650) (by decide +kernel) rfl
theorem mwX7_in : k_mw yX7_in cX7_in 3 (some .boolean) 3 := ⟨lw_gm (i := 858) (by decide +kernel) rfl, lw_gm (i := 73) (by decide +kernel) rfl, by decide +kernel, by decide +kernel⟩
theorem swX7_in : Cond.static yX7_in ∈ lw_g := lw_gm (i := 857) (by decide +kernel) rfl
theorem mwX7_isKind : k_mw yX7_isKind cX7_isKind 2 (some .boolean) 1 := ⟨lw_gm (i := 915) (by decide +kernel) rfl, lw_gm (i := 73) (by decide +kernel) rfl, by decide +kernel, by decide +kernel⟩
theorem iwX7_isKind : k_iw yX7_isKind := ⟨lw_gm (i := 914) (by decide +kernel) rfl, lw_gm (i := 28) (by decide +kernel) rfl⟩
theorem mwX7_isFarmer : k_mw yX7_isFarmer cX7_isFarmer 2 (some .boolean) 1 := ⟨lw_gm (i := 911) (by decide +kernel) rfl, lw_gm (i := 73) (by decide +kernel) rfl, by decide +kernel, by decide +kernel⟩
theorem iwX7_isFarmer : k_iw yX7_isFarmer := ⟨lw_gm (i := 910) (by decide +kernel) rfl, lw_gm (i := 27) (by decide +kernel) rfl⟩
theorem mwX7_isSack : k_mw yX7_isSack cX7_isSack 2 (some .boolean) 1 := ⟨lw_gm (i := 927) (by decide +kernel) rfl, lw_gm (i := 73) (by decide +kernel) rfl, by decide +kernel, by decide +kernel⟩
theorem iwX7_isSack : k_iw yX7_isSack := ⟨lw_gm (i := 926) (by decide +kernel) rfl, lw_gm (i := 30) (by decide +kernel) rfl⟩
theorem mwX7_of : k_mw yX7_of cX7_of 3 (some .int) 2 := ⟨lw_gm (i := 931) (by decide +kernel) rfl, lw_gm (i := 73) (by decide +kernel) rfl, by decide +kernel, by decide +kernel⟩
theorem iwX7_of : k_iw yX7_of := ⟨lw_gm (i := 930) (by decide +kernel) rfl, lw_gm (i := 31) (by decide +kernel) rfl⟩
theorem mwX7_put : k_mw yX7_put cX7_put 4 none 3 := ⟨lw_gm (i := 919) (by decide +kernel) rfl, lw_gm (i := 73) (by decide +kernel) rfl, by decide +kernel, by decide +kernel⟩
theorem iwX7_put : k_iw yX7_put := ⟨lw_gm (i := 918) (by decide +kernel) rfl, lw_gm (i := 29) (by decide +kernel) rfl⟩
theorem mwX7_hardness : k_mw yX7_hardness cX7_hardness 2 (some .int) 1 := ⟨lw_gm (i := 996) (by decide +kernel) rfl, lw_gm (i := 73) (by decide +kernel) rfl, by decide +kernel, by decide +kernel⟩
theorem iwX7_hardness : k_iw yX7_hardness := ⟨lw_gm (i := 995) (by decide +kernel) rfl, lw_gm (i := 43) (by decide +kernel) rfl⟩
theorem mwX7_keeps : k_mw yX7_keeps cX7_keeps 2 none 0 := ⟨lw_gm (i := 869) (by decide +kernel) rfl, lw_gm (i := 73) (by decide +kernel) rfl, by decide +kernel, by decide +kernel⟩
theorem iwX7_keeps : k_iw yX7_keeps := ⟨lw_gm (i := 868) (by decide +kernel) rfl, lw_gm (i := 23) (by decide +kernel) rfl⟩
theorem mwX7_acted : k_mw yX7_acted cX7_acted 3 (some .int) 1 := ⟨lw_gm (i := 873) (by decide +kernel) rfl, lw_gm (i := 73) (by decide +kernel) rfl, by decide +kernel, by decide +kernel⟩
theorem iwX7_acted : k_iw yX7_acted := ⟨lw_gm (i := 872) (by decide +kernel) rfl, lw_gm (i := 24) (by decide +kernel) rfl⟩
theorem mwX7_lays : k_mw yX7_lays cX7_lays 2 none 0 := ⟨lw_gm (i := 1107) (by decide +kernel) rfl, lw_gm (i := 73) (by decide +kernel) rfl, by decide +kernel, by decide +kernel⟩
theorem iwX7_lays : k_iw yX7_lays := ⟨lw_gm (i := 1106) (by decide +kernel) rfl, lw_gm (i := 57) (by decide +kernel) rfl⟩
theorem mwX7_restores : k_mw yX7_restores cX7_restores 2 none 0 := ⟨lw_gm (i := 1111) (by decide +kernel) rfl, lw_gm (i := 73) (by decide +kernel) rfl, by decide +kernel, by decide +kernel⟩
theorem iwX7_restores : k_iw yX7_restores := ⟨lw_gm (i := 1110) (by decide +kernel) rfl, lw_gm (i := 58) (by decide +kernel) rfl⟩
theorem mwX7_toll : k_mw yX7_toll cX7_toll 2 (some .int) 1 := ⟨lw_gm (i := 948) (by decide +kernel) rfl, lw_gm (i := 73) (by decide +kernel) rfl, by decide +kernel, by decide +kernel⟩
theorem iwX7_toll : k_iw yX7_toll := ⟨lw_gm (i := 947) (by decide +kernel) rfl, lw_gm (i := 34) (by decide +kernel) rfl⟩
theorem mwX7_dust : k_mw yX7_dust cX7_dust 2 (some .int) 1 := ⟨lw_gm (i := 952) (by decide +kernel) rfl, lw_gm (i := 73) (by decide +kernel) rfl, by decide +kernel, by decide +kernel⟩
theorem iwX7_dust : k_iw yX7_dust := ⟨lw_gm (i := 951) (by decide +kernel) rfl, lw_gm (i := 35) (by decide +kernel) rfl⟩
theorem mwX7_grain : k_mw yX7_grain cX7_grain 2 (some .int) 1 := ⟨lw_gm (i := 972) (by decide +kernel) rfl, lw_gm (i := 73) (by decide +kernel) rfl, by decide +kernel, by decide +kernel⟩
theorem iwX7_grain : k_iw yX7_grain := ⟨lw_gm (i := 971) (by decide +kernel) rfl, lw_gm (i := 39) (by decide +kernel) rfl⟩
theorem mwX7_flour : k_mw yX7_flour cX7_flour 2 (some .int) 1 := ⟨lw_gm (i := 944) (by decide +kernel) rfl, lw_gm (i := 73) (by decide +kernel) rfl, by decide +kernel, by decide +kernel⟩
theorem iwX7_flour : k_iw yX7_flour := ⟨lw_gm (i := 943) (by decide +kernel) rfl, lw_gm (i := 33) (by decide +kernel) rfl⟩
theorem mwX7_came : k_mw yX7_came cX7_came 4 (some .int) 1 := ⟨lw_gm (i := 980) (by decide +kernel) rfl, lw_gm (i := 73) (by decide +kernel) rfl, by decide +kernel, by decide +kernel⟩
theorem iwX7_came : k_iw yX7_came := ⟨lw_gm (i := 979) (by decide +kernel) rfl, lw_gm (i := 40) (by decide +kernel) rfl⟩
theorem mwX7_weight : k_mw yX7_weight cX7_weight 2 (some .int) 1 := ⟨lw_gm (i := 992) (by decide +kernel) rfl, lw_gm (i := 73) (by decide +kernel) rfl, by decide +kernel, by decide +kernel⟩
theorem iwX7_weight : k_iw yX7_weight := ⟨lw_gm (i := 991) (by decide +kernel) rfl, lw_gm (i := 42) (by decide +kernel) rfl⟩
theorem mwX7_placeOf : k_mw yX7_placeOf cX7_placeOf 5 (some .int) 1 := ⟨lw_gm (i := 988) (by decide +kernel) rfl, lw_gm (i := 73) (by decide +kernel) rfl, by decide +kernel, by decide +kernel⟩
theorem iwX7_placeOf : k_iw yX7_placeOf := ⟨lw_gm (i := 987) (by decide +kernel) rfl, lw_gm (i := 41) (by decide +kernel) rfl⟩
theorem mwX7_waitingAt : k_mw yX7_waitingAt cX7_waitingAt 3 (some .int) 1 := ⟨lw_gm (i := 1005) (by decide +kernel) rfl, lw_gm (i := 73) (by decide +kernel) rfl, by decide +kernel, by decide +kernel⟩
theorem iwX7_waitingAt : k_iw yX7_waitingAt := ⟨lw_gm (i := 1004) (by decide +kernel) rfl, lw_gm (i := 44) (by decide +kernel) rfl⟩
theorem mwX7_sacksIn : k_mw yX7_sacksIn cX7_sacksIn 4 (some .int) 1 := ⟨lw_gm (i := 1083) (by decide +kernel) rfl, lw_gm (i := 73) (by decide +kernel) rfl, by decide +kernel, by decide +kernel⟩
theorem iwX7_sacksIn : k_iw yX7_sacksIn := ⟨lw_gm (i := 1082) (by decide +kernel) rfl, lw_gm (i := 55) (by decide +kernel) rfl⟩
theorem mwX7_sea : k_mw yX7_sea cX7_sea 7 (some .int) 1 := ⟨lw_gm (i := 1075) (by decide +kernel) rfl, lw_gm (i := 73) (by decide +kernel) rfl, by decide +kernel, by decide +kernel⟩
theorem iwX7_sea : k_iw yX7_sea := ⟨lw_gm (i := 1074) (by decide +kernel) rfl, lw_gm (i := 53) (by decide +kernel) rfl⟩
theorem mwX7_head : k_mw yX7_head cX7_head 1 (some .int) 0 := ⟨lw_gm (i := 1071) (by decide +kernel) rfl, lw_gm (i := 73) (by decide +kernel) rfl, by decide +kernel, by decide +kernel⟩
theorem iwX7_head : k_iw yX7_head := ⟨lw_gm (i := 1070) (by decide +kernel) rfl, lw_gm (i := 52) (by decide +kernel) rfl⟩
theorem mwX7_falls : k_mw yX7_falls cX7_falls 2 none 0 := ⟨lw_gm (i := 1063) (by decide +kernel) rfl, lw_gm (i := 73) (by decide +kernel) rfl, by decide +kernel, by decide +kernel⟩
theorem iwX7_falls : k_iw yX7_falls := ⟨lw_gm (i := 1062) (by decide +kernel) rfl, lw_gm (i := 50) (by decide +kernel) rfl⟩
theorem mwX7_flows : k_mw yX7_flows cX7_flows 5 none 0 := ⟨lw_gm (i := 1067) (by decide +kernel) rfl, lw_gm (i := 73) (by decide +kernel) rfl, by decide +kernel, by decide +kernel⟩
theorem iwX7_flows : k_iw yX7_flows := ⟨lw_gm (i := 1066) (by decide +kernel) rfl, lw_gm (i := 51) (by decide +kernel) rfl⟩
theorem mwX7_comes : k_mw yX7_comes cX7_comes 2 none 1 := ⟨lw_gm (i := 1087) (by decide +kernel) rfl, lw_gm (i := 73) (by decide +kernel) rfl, by decide +kernel, by decide +kernel⟩
theorem iwX7_comes : k_iw yX7_comes := ⟨lw_gm (i := 1086) (by decide +kernel) rfl, lw_gm (i := 56) (by decide +kernel) rfl⟩
theorem mwX7_grinds : k_mw yX7_grinds cX7_grinds 5 none 0 := ⟨lw_gm (i := 1079) (by decide +kernel) rfl, lw_gm (i := 73) (by decide +kernel) rfl, by decide +kernel, by decide +kernel⟩
theorem iwX7_grinds : k_iw yX7_grinds := ⟨lw_gm (i := 1078) (by decide +kernel) rfl, lw_gm (i := 54) (by decide +kernel) rfl⟩
theorem mwX7_goes : k_mw yX7_goes cX7_goes 1 none 0 := ⟨lw_gm (i := 1059) (by decide +kernel) rfl, lw_gm (i := 73) (by decide +kernel) rfl, by decide +kernel, by decide +kernel⟩
theorem iwX7_goes : k_iw yX7_goes := ⟨lw_gm (i := 1058) (by decide +kernel) rfl, lw_gm (i := 49) (by decide +kernel) rfl⟩
theorem mwX7_gates : k_mw yX7_gates cX7_gates 3 (some .int) 1 := ⟨lw_gm (i := 889) (by decide +kernel) rfl, lw_gm (i := 73) (by decide +kernel) rfl, by decide +kernel, by decide +kernel⟩
theorem iwX7_gates : k_iw yX7_gates := ⟨lw_gm (i := 888) (by decide +kernel) rfl, lw_gm (i := 25) (by decide +kernel) rfl⟩
theorem mwX7_brings : k_mw yX7_brings cX7_brings 6 (some .int) 3 := ⟨lw_gm (i := 907) (by decide +kernel) rfl, lw_gm (i := 73) (by decide +kernel) rfl, by decide +kernel, by decide +kernel⟩
theorem iwX7_brings : k_iw yX7_brings := ⟨lw_gm (i := 906) (by decide +kernel) rfl, lw_gm (i := 26) (by decide +kernel) rfl⟩
theorem mwX7_fetches : k_mw yX7_fetches cX7_fetches 3 (some .int) 1 := ⟨lw_gm (i := 940) (by decide +kernel) rfl, lw_gm (i := 73) (by decide +kernel) rfl, by decide +kernel, by decide +kernel⟩
theorem iwX7_fetches : k_iw yX7_fetches := ⟨lw_gm (i := 939) (by decide +kernel) rfl, lw_gm (i := 32) (by decide +kernel) rfl⟩
theorem mwX7_product : k_mw yX7_product cX7_product 4 (some .int) 2 := ⟨lw_gm (i := 1026) (by decide +kernel) rfl, lw_gm (i := 73) (by decide +kernel) rfl, by decide +kernel, by decide +kernel⟩
theorem swX7_product : Cond.static yX7_product ∈ lw_g := lw_gm (i := 1025) (by decide +kernel) rfl
theorem mwX7_pledges : k_mw yX7_pledges cX7_pledges 6 (some .int) 2 := ⟨lw_gm (i := 1023) (by decide +kernel) rfl, lw_gm (i := 73) (by decide +kernel) rfl, by decide +kernel, by decide +kernel⟩
theorem iwX7_pledges : k_iw yX7_pledges := ⟨lw_gm (i := 1022) (by decide +kernel) rfl, lw_gm (i := 45) (by decide +kernel) rfl⟩
theorem mwX7_owes : k_mw yX7_owes cX7_owes 3 (some .int) 1 := ⟨lw_gm (i := 1035) (by decide +kernel) rfl, lw_gm (i := 73) (by decide +kernel) rfl, by decide +kernel, by decide +kernel⟩
theorem iwX7_owes : k_iw yX7_owes := ⟨lw_gm (i := 1034) (by decide +kernel) rfl, lw_gm (i := 46) (by decide +kernel) rfl⟩
theorem mwX7_redeems : k_mw yX7_redeems cX7_redeems 3 (some .int) 1 := ⟨lw_gm (i := 1043) (by decide +kernel) rfl, lw_gm (i := 73) (by decide +kernel) rfl, by decide +kernel, by decide +kernel⟩
theorem iwX7_redeems : k_iw yX7_redeems := ⟨lw_gm (i := 1042) (by decide +kernel) rfl, lw_gm (i := 47) (by decide +kernel) rfl⟩
theorem mwX7_low : k_mw yX7_low cX7_low 1 (some .int) 1 := ⟨lw_gm (i := 861) (by decide +kernel) rfl, lw_gm (i := 73) (by decide +kernel) rfl, by decide +kernel, by decide +kernel⟩
theorem swX7_low : Cond.static yX7_low ∈ lw_g := lw_gm (i := 860) (by decide +kernel) rfl
theorem mwX7_high : k_mw yX7_high cX7_high 1 (some .int) 1 := ⟨lw_gm (i := 864) (by decide +kernel) rfl, lw_gm (i := 73) (by decide +kernel) rfl, by decide +kernel, by decide +kernel⟩
theorem swX7_high : Cond.static yX7_high ∈ lw_g := lw_gm (i := 863) (by decide +kernel) rfl
theorem mwX7_set : k_mw yX7_set cX7_set 4 (some .int) 2 := ⟨lw_gm (i := 855) (by decide +kernel) rfl, lw_gm (i := 73) (by decide +kernel) rfl, by decide +kernel, by decide +kernel⟩
theorem iwX7_set : k_iw yX7_set := ⟨lw_gm (i := 853) (by decide +kernel) rfl, lw_gm (i := 854) (by decide +kernel) rfl⟩
theorem mwX7_leak : k_mw yX7_leak cX7_leak 4 (some .int) 2 := ⟨lw_gm (i := 877) (by decide +kernel) rfl, lw_gm (i := 73) (by decide +kernel) rfl, by decide +kernel, by decide +kernel⟩
theorem iwX7_leak : k_iw yX7_leak := ⟨lw_gm (i := 875) (by decide +kernel) rfl, lw_gm (i := 876) (by decide +kernel) rfl⟩
theorem mwX7_lock : k_mw yX7_lock cX7_lock 3 (some .int) 1 := ⟨lw_gm (i := 881) (by decide +kernel) rfl, lw_gm (i := 73) (by decide +kernel) rfl, by decide +kernel, by decide +kernel⟩
theorem iwX7_lock : k_iw yX7_lock := ⟨lw_gm (i := 879) (by decide +kernel) rfl, lw_gm (i := 880) (by decide +kernel) rfl⟩
theorem mwX7_gate : k_mw yX7_gate cX7_gate 2 (some .int) 1 := ⟨lw_gm (i := 885) (by decide +kernel) rfl, lw_gm (i := 73) (by decide +kernel) rfl, by decide +kernel, by decide +kernel⟩
theorem iwX7_gate : k_iw yX7_gate := ⟨lw_gm (i := 883) (by decide +kernel) rfl, lw_gm (i := 884) (by decide +kernel) rfl⟩
theorem mwX7_kind : k_mw yX7_kind cX7_kind 5 (some .int) 3 := ⟨lw_gm (i := 893) (by decide +kernel) rfl, lw_gm (i := 73) (by decide +kernel) rfl, by decide +kernel, by decide +kernel⟩
theorem iwX7_kind : k_iw yX7_kind := ⟨lw_gm (i := 891) (by decide +kernel) rfl, lw_gm (i := 892) (by decide +kernel) rfl⟩
theorem mwX7_farmer : k_mw yX7_farmer cX7_farmer 1 (some .int) 0 := ⟨lw_gm (i := 899) (by decide +kernel) rfl, lw_gm (i := 73) (by decide +kernel) rfl, by decide +kernel, by decide +kernel⟩
theorem iwX7_farmer : k_iw yX7_farmer := ⟨lw_gm (i := 897) (by decide +kernel) rfl, lw_gm (i := 898) (by decide +kernel) rfl⟩
theorem mwX7_bring : k_mw yX7_bring cX7_bring 4 (some .int) 3 := ⟨lw_gm (i := 903) (by decide +kernel) rfl, lw_gm (i := 73) (by decide +kernel) rfl, by decide +kernel, by decide +kernel⟩
theorem iwX7_bring : k_iw yX7_bring := ⟨lw_gm (i := 901) (by decide +kernel) rfl, lw_gm (i := 902) (by decide +kernel) rfl⟩
theorem mwX7_withdraw : k_mw yX7_withdraw cX7_withdraw 2 (some .int) 1 := ⟨lw_gm (i := 923) (by decide +kernel) rfl, lw_gm (i := 73) (by decide +kernel) rfl, by decide +kernel, by decide +kernel⟩
theorem iwX7_withdraw : k_iw yX7_withdraw := ⟨lw_gm (i := 921) (by decide +kernel) rfl, lw_gm (i := 922) (by decide +kernel) rfl⟩
theorem mwX7_fetch : k_mw yX7_fetch cX7_fetch 2 (some .int) 1 := ⟨lw_gm (i := 936) (by decide +kernel) rfl, lw_gm (i := 73) (by decide +kernel) rfl, by decide +kernel, by decide +kernel⟩
theorem iwX7_fetch : k_iw yX7_fetch := ⟨lw_gm (i := 934) (by decide +kernel) rfl, lw_gm (i := 935) (by decide +kernel) rfl⟩
theorem mwX7_told : k_mw yX7_told cX7_told 3 (some .int) 2 := ⟨lw_gm (i := 968) (by decide +kernel) rfl, lw_gm (i := 73) (by decide +kernel) rfl, by decide +kernel, by decide +kernel⟩
theorem iwX7_told : k_iw yX7_told := ⟨lw_gm (i := 967) (by decide +kernel) rfl, lw_gm (i := 38) (by decide +kernel) rfl⟩
theorem mwX7_sum : k_mw yX7_sum cX7_sum 7 (some .int) 3 := ⟨lw_gm (i := 964) (by decide +kernel) rfl, lw_gm (i := 73) (by decide +kernel) rfl, by decide +kernel, by decide +kernel⟩
theorem iwX7_sum : k_iw yX7_sum := ⟨lw_gm (i := 963) (by decide +kernel) rfl, lw_gm (i := 37) (by decide +kernel) rfl⟩
theorem mwX7_many : k_mw yX7_many cX7_many 7 (some .int) 3 := ⟨lw_gm (i := 960) (by decide +kernel) rfl, lw_gm (i := 73) (by decide +kernel) rfl, by decide +kernel, by decide +kernel⟩
theorem iwX7_many : k_iw yX7_many := ⟨lw_gm (i := 959) (by decide +kernel) rfl, lw_gm (i := 36) (by decide +kernel) rfl⟩
theorem mwX7_kindOf : k_mw yX7_kindOf cX7_kindOf 3 (some .int) 2 := ⟨lw_gm (i := 956) (by decide +kernel) rfl, lw_gm (i := 73) (by decide +kernel) rfl, by decide +kernel, by decide +kernel⟩
theorem iwX7_kindOf : k_iw yX7_kindOf := ⟨lw_gm (i := 954) (by decide +kernel) rfl, lw_gm (i := 955) (by decide +kernel) rfl⟩
theorem mwX7_farmerOf : k_mw yX7_farmerOf cX7_farmerOf 3 (some .int) 2 := ⟨lw_gm (i := 976) (by decide +kernel) rfl, lw_gm (i := 73) (by decide +kernel) rfl, by decide +kernel, by decide +kernel⟩
theorem iwX7_farmerOf : k_iw yX7_farmerOf := ⟨lw_gm (i := 974) (by decide +kernel) rfl, lw_gm (i := 975) (by decide +kernel) rfl⟩
theorem mwX7_sackOf : k_mw yX7_sackOf cX7_sackOf 3 (some .int) 2 := ⟨lw_gm (i := 984) (by decide +kernel) rfl, lw_gm (i := 73) (by decide +kernel) rfl, by decide +kernel, by decide +kernel⟩
theorem iwX7_sackOf : k_iw yX7_sackOf := ⟨lw_gm (i := 982) (by decide +kernel) rfl, lw_gm (i := 983) (by decide +kernel) rfl⟩
theorem mwX7_queueAt : k_mw yX7_queueAt cX7_queueAt 3 (some .int) 1 := ⟨lw_gm (i := 1001) (by decide +kernel) rfl, lw_gm (i := 73) (by decide +kernel) rfl, by decide +kernel, by decide +kernel⟩
theorem iwX7_queueAt : k_iw yX7_queueAt := ⟨lw_gm (i := 999) (by decide +kernel) rfl, lw_gm (i := 1000) (by decide +kernel) rfl⟩
theorem mwX7_account : k_mw yX7_account cX7_account 4 (some .int) 3 := ⟨lw_gm (i := 1009) (by decide +kernel) rfl, lw_gm (i := 73) (by decide +kernel) rfl, by decide +kernel, by decide +kernel⟩
theorem iwX7_account : k_iw yX7_account := ⟨lw_gm (i := 1007) (by decide +kernel) rfl, lw_gm (i := 1008) (by decide +kernel) rfl⟩
theorem mwX7_earn : k_mw yX7_earn cX7_earn 3 (some .int) 2 := ⟨lw_gm (i := 1013) (by decide +kernel) rfl, lw_gm (i := 73) (by decide +kernel) rfl, by decide +kernel, by decide +kernel⟩
theorem iwX7_earn : k_iw yX7_earn := ⟨lw_gm (i := 1011) (by decide +kernel) rfl, lw_gm (i := 1012) (by decide +kernel) rfl⟩
theorem mwX7_pledge : k_mw yX7_pledge cX7_pledge 3 (some .int) 2 := ⟨lw_gm (i := 1019) (by decide +kernel) rfl, lw_gm (i := 73) (by decide +kernel) rfl, by decide +kernel, by decide +kernel⟩
theorem iwX7_pledge : k_iw yX7_pledge := ⟨lw_gm (i := 1017) (by decide +kernel) rfl, lw_gm (i := 1018) (by decide +kernel) rfl⟩
theorem mwX7_owed : k_mw yX7_owed cX7_owed 2 (some .int) 1 := ⟨lw_gm (i := 1031) (by decide +kernel) rfl, lw_gm (i := 73) (by decide +kernel) rfl, by decide +kernel, by decide +kernel⟩
theorem iwX7_owed : k_iw yX7_owed := ⟨lw_gm (i := 1029) (by decide +kernel) rfl, lw_gm (i := 1030) (by decide +kernel) rfl⟩
theorem mwX7_redeem : k_mw yX7_redeem cX7_redeem 2 (some .int) 1 := ⟨lw_gm (i := 1039) (by decide +kernel) rfl, lw_gm (i := 73) (by decide +kernel) rfl, by decide +kernel, by decide +kernel⟩
theorem iwX7_redeem : k_iw yX7_redeem := ⟨lw_gm (i := 1037) (by decide +kernel) rfl, lw_gm (i := 1038) (by decide +kernel) rfl⟩
theorem mwX7_ahead : k_mw yX7_ahead cX7_ahead 5 (some .int) 1 := ⟨lw_gm (i := 1051) (by decide +kernel) rfl, lw_gm (i := 73) (by decide +kernel) rfl, by decide +kernel, by decide +kernel⟩
theorem iwX7_ahead : k_iw yX7_ahead := ⟨lw_gm (i := 1050) (by decide +kernel) rfl, lw_gm (i := 48) (by decide +kernel) rfl⟩
theorem mwX7_pledgeAt : k_mw yX7_pledgeAt cX7_pledgeAt 4 (some .int) 2 := ⟨lw_gm (i := 1047) (by decide +kernel) rfl, lw_gm (i := 73) (by decide +kernel) rfl, by decide +kernel, by decide +kernel⟩
theorem iwX7_pledgeAt : k_iw yX7_pledgeAt := ⟨lw_gm (i := 1045) (by decide +kernel) rfl, lw_gm (i := 1046) (by decide +kernel) rfl⟩
theorem mwX7_pass : k_mw yX7_pass cX7_pass 3 (some .int) 1 := ⟨lw_gm (i := 1055) (by decide +kernel) rfl, lw_gm (i := 73) (by decide +kernel) rfl, by decide +kernel, by decide +kernel⟩
theorem iwX7_pass : k_iw yX7_pass := ⟨lw_gm (i := 1053) (by decide +kernel) rfl, lw_gm (i := 1054) (by decide +kernel) rfl⟩
theorem mwX7_seaIn : k_mw yX7_seaIn cX7_seaIn 2 (some .int) 1 := ⟨lw_gm (i := 1091) (by decide +kernel) rfl, lw_gm (i := 73) (by decide +kernel) rfl, by decide +kernel, by decide +kernel⟩
theorem iwX7_seaIn : k_iw yX7_seaIn := ⟨lw_gm (i := 1089) (by decide +kernel) rfl, lw_gm (i := 1090) (by decide +kernel) rfl⟩
theorem mwX7_nextHigh : k_mw yX7_nextHigh cX7_nextHigh 2 (some .int) 0 := ⟨lw_gm (i := 1095) (by decide +kernel) rfl, lw_gm (i := 73) (by decide +kernel) rfl, by decide +kernel, by decide +kernel⟩
theorem iwX7_nextHigh : k_iw yX7_nextHigh := ⟨lw_gm (i := 1093) (by decide +kernel) rfl, lw_gm (i := 1094) (by decide +kernel) rfl⟩
theorem mwX7_pond : k_mw yX7_pond cX7_pond 2 (some .int) 1 := ⟨lw_gm (i := 1099) (by decide +kernel) rfl, lw_gm (i := 73) (by decide +kernel) rfl, by decide +kernel, by decide +kernel⟩
theorem iwX7_pond : k_iw yX7_pond := ⟨lw_gm (i := 1097) (by decide +kernel) rfl, lw_gm (i := 1098) (by decide +kernel) rfl⟩
theorem mwX7_foresee : k_mw yX7_foresee cX7_foresee 4 (some .int) 1 := ⟨lw_gm (i := 1103) (by decide +kernel) rfl, lw_gm (i := 73) (by decide +kernel) rfl, by decide +kernel, by decide +kernel⟩
theorem iwX7_foresee : k_iw yX7_foresee := ⟨lw_gm (i := 1101) (by decide +kernel) rfl, lw_gm (i := 1102) (by decide +kernel) rfl⟩
theorem mwX7_bestGate : k_mw yX7_bestGate cX7_bestGate 6 (some .int) 1 := ⟨lw_gm (i := 1115) (by decide +kernel) rfl, lw_gm (i := 73) (by decide +kernel) rfl, by decide +kernel, by decide +kernel⟩
theorem iwX7_bestGate : k_iw yX7_bestGate := ⟨lw_gm (i := 1113) (by decide +kernel) rfl, lw_gm (i := 1114) (by decide +kernel) rfl⟩
theorem mwX7_count : k_mw yX7_count cX7_count 2 (some .int) 1 := ⟨lw_gm (i := 1119) (by decide +kernel) rfl, lw_gm (i := 73) (by decide +kernel) rfl, by decide +kernel, by decide +kernel⟩
theorem iwX7_count : k_iw yX7_count := ⟨lw_gm (i := 1117) (by decide +kernel) rfl, lw_gm (i := 1118) (by decide +kernel) rfl⟩
theorem mwX7_undo : k_mw yX7_undo cX7_undo 2 (some .int) 0 := ⟨lw_gm (i := 1123) (by decide +kernel) rfl, lw_gm (i := 73) (by decide +kernel) rfl, by decide +kernel, by decide +kernel⟩
theorem iwX7_undo : k_iw yX7_undo := ⟨lw_gm (i := 1121) (by decide +kernel) rfl, lw_gm (i := 1122) (by decide +kernel) rfl⟩
theorem mwX7_type : k_mw yX7_type cX7_type 2 (some .int) 1 := ⟨lw_gm (i := 1127) (by decide +kernel) rfl, lw_gm (i := 73) (by decide +kernel) rfl, by decide +kernel, by decide +kernel⟩
theorem iwX7_type : k_iw yX7_type := ⟨lw_gm (i := 1125) (by decide +kernel) rfl, lw_gm (i := 1126) (by decide +kernel) rfl⟩
theorem mwX7_clearText : k_mw yX7_clearText cX7_clearText 2 (some .int) 0 := ⟨lw_gm (i := 1131) (by decide +kernel) rfl, lw_gm (i := 73) (by decide +kernel) rfl, by decide +kernel, by decide +kernel⟩
theorem iwX7_clearText : k_iw yX7_clearText := ⟨lw_gm (i := 1129) (by decide +kernel) rfl, lw_gm (i := 1130) (by decide +kernel) rfl⟩
theorem mwX7_passes : k_mw yX7_passes cX7_passes 3 (some .boolean) 1 := ⟨lw_gm (i := 1154) (by decide +kernel) rfl, lw_gm (i := 73) (by decide +kernel) rfl, by decide +kernel, by decide +kernel⟩
theorem iwX7_passes : k_iw yX7_passes := ⟨lw_gm (i := 1153) (by decide +kernel) rfl, lw_gm (i := 62) (by decide +kernel) rfl⟩
theorem mwX7_takes : k_mw yX7_takes cX7_takes 3 (some .boolean) 1 := ⟨lw_gm (i := 1158) (by decide +kernel) rfl, lw_gm (i := 73) (by decide +kernel) rfl, by decide +kernel, by decide +kernel⟩
theorem iwX7_takes : k_iw yX7_takes := ⟨lw_gm (i := 1157) (by decide +kernel) rfl, lw_gm (i := 63) (by decide +kernel) rfl⟩
theorem mwX7_numbers : k_mw yX7_numbers cX7_numbers 1 (some .int) 1 := ⟨lw_gm (i := 1146) (by decide +kernel) rfl, lw_gm (i := 73) (by decide +kernel) rfl, by decide +kernel, by decide +kernel⟩
theorem swX7_numbers : Cond.static yX7_numbers ∈ lw_g := lw_gm (i := 1145) (by decide +kernel) rfl
theorem mwX7_readsForm : k_mw yX7_readsForm cX7_readsForm 4 (some .boolean) 1 := ⟨lw_gm (i := 1150) (by decide +kernel) rfl, lw_gm (i := 73) (by decide +kernel) rfl, by decide +kernel, by decide +kernel⟩
theorem iwX7_readsForm : k_iw yX7_readsForm := ⟨lw_gm (i := 1149) (by decide +kernel) rfl, lw_gm (i := 61) (by decide +kernel) rfl⟩
theorem mwX7_does : k_mw yX7_does cX7_does 2 (some .int) 1 := ⟨lw_gm (i := 1162) (by decide +kernel) rfl, lw_gm (i := 73) (by decide +kernel) rfl, by decide +kernel, by decide +kernel⟩
theorem iwX7_does : k_iw yX7_does := ⟨lw_gm (i := 1161) (by decide +kernel) rfl, lw_gm (i := 64) (by decide +kernel) rfl⟩
theorem mwX7_doesNext : k_mw yX7_doesNext cX7_doesNext 3 (some .int) 0 := ⟨lw_gm (i := 1143) (by decide +kernel) rfl, lw_gm (i := 73) (by decide +kernel) rfl, by decide +kernel, by decide +kernel⟩
theorem iwX7_doesNext : k_iw yX7_doesNext := ⟨lw_gm (i := 1142) (by decide +kernel) rfl, lw_gm (i := 60) (by decide +kernel) rfl⟩
theorem mwX7_faulty : k_mw yX7_faulty cX7_faulty 3 (some .int) 0 := ⟨lw_gm (i := 1139) (by decide +kernel) rfl, lw_gm (i := 73) (by decide +kernel) rfl, by decide +kernel, by decide +kernel⟩
theorem iwX7_faulty : k_iw yX7_faulty := ⟨lw_gm (i := 1138) (by decide +kernel) rfl, lw_gm (i := 59) (by decide +kernel) rfl⟩
theorem mwX7_fault : k_mw yX7_fault cX7_fault 3 (some .int) 1 := ⟨lw_gm (i := 1135) (by decide +kernel) rfl, lw_gm (i := 73) (by decide +kernel) rfl, by decide +kernel, by decide +kernel⟩
theorem iwX7_fault : k_iw yX7_fault := ⟨lw_gm (i := 1133) (by decide +kernel) rfl, lw_gm (i := 1134) (by decide +kernel) rfl⟩
theorem mwX7_play : k_mw yX7_play cX7_play 2 (some .int) 0 := ⟨lw_gm (i := 1166) (by decide +kernel) rfl, lw_gm (i := 73) (by decide +kernel) rfl, by decide +kernel, by decide +kernel⟩
theorem iwX7_play : k_iw yX7_play := ⟨lw_gm (i := 1164) (by decide +kernel) rfl, lw_gm (i := 1165) (by decide +kernel) rfl⟩
theorem mlL_13 : Cond.methodLink RL 13 yX6_set ∈ lw_g := lw_gm (i := 339) (by decide +kernel) rfl
theorem mlX6_33 : Cond.methodLink RX6 33 yX1_hold ∈ lw_g := lw_gm (i := 343) (by decide +kernel) rfl
theorem mlX1_25 : Cond.methodLink RX1 25 yX3_copyFrom ∈ lw_g := lw_gm (i := 347) (by decide +kernel) rfl
theorem mlX3_63 : Cond.methodLink RX3 63 yX3_copyGrainFrom ∈ lw_g := lw_gm (i := 354) (by decide +kernel) rfl
theorem mlX3_100 : Cond.methodLink RX3 100 yX2_takeFrom ∈ lw_g := lw_gm (i := 358) (by decide +kernel) rfl
theorem mlX3_104 : Cond.methodLink RX3 104 yX0_takeFrom ∈ lw_g := lw_gm (i := 362) (by decide +kernel) rfl
theorem mlX3_107 : Cond.methodLink RX3 107 yX5_takeFrom ∈ lw_g := lw_gm (i := 366) (by decide +kernel) rfl
theorem mlX6_37 : Cond.methodLink RX6 37 yX3_changeSetting ∈ lw_g := lw_gm (i := 370) (by decide +kernel) rfl
theorem mlX6_41 : Cond.methodLink RX6 41 yX1_keepIfDone ∈ lw_g := lw_gm (i := 382) (by decide +kernel) rfl
theorem mlL_18 : Cond.methodLink RL 18 yX6_leak ∈ lw_g := lw_gm (i := 386) (by decide +kernel) rfl
theorem mlX6_45 : Cond.methodLink RX6 45 yX3_changeLeak ∈ lw_g := lw_gm (i := 390) (by decide +kernel) rfl
theorem mlL_22 : Cond.methodLink RL 22 yX6_lock ∈ lw_g := lw_gm (i := 394) (by decide +kernel) rfl
theorem mlX6_48 : Cond.methodLink RX6 48 yX3_changeLock ∈ lw_g := lw_gm (i := 398) (by decide +kernel) rfl
theorem mlL_27 : Cond.methodLink RL 27 yX6_gate ∈ lw_g := lw_gm (i := 402) (by decide +kernel) rfl
theorem mlX6_51 : Cond.methodLink RX6 51 yX3_changeOpening ∈ lw_g := lw_gm (i := 406) (by decide +kernel) rfl
theorem mlL_31 : Cond.methodLink RL 31 yX6_kind ∈ lw_g := lw_gm (i := 410) (by decide +kernel) rfl
theorem mlX6_54 : Cond.methodLink RX6 54 yX3_addKind ∈ lw_g := lw_gm (i := 414) (by decide +kernel) rfl
theorem mlL_36 : Cond.methodLink RL 36 yX6_farmer ∈ lw_g := lw_gm (i := 420) (by decide +kernel) rfl
theorem mlX6_58 : Cond.methodLink RX6 58 yX3_addFarmer ∈ lw_g := lw_gm (i := 424) (by decide +kernel) rfl
theorem mlL_41 : Cond.methodLink RL 41 yX6_bring ∈ lw_g := lw_gm (i := 428) (by decide +kernel) rfl
theorem mlX6_62 : Cond.methodLink RX6 62 yX3_addSack ∈ lw_g := lw_gm (i := 432) (by decide +kernel) rfl
theorem mlX3_138 : Cond.methodLink RX3 138 yX3_hasFarmer ∈ lw_g := lw_gm (i := 436) (by decide +kernel) rfl
theorem mlX3_142 : Cond.methodLink RX3 142 yX3_hasKind ∈ lw_g := lw_gm (i := 440) (by decide +kernel) rfl
theorem mlX3_145 : Cond.methodLink RX3 145 yX5_begin ∈ lw_g := lw_gm (i := 444) (by decide +kernel) rfl
theorem mlX5_68 : Cond.methodLink RX5 68 yX5_endPledge ∈ lw_g := lw_gm (i := 448) (by decide +kernel) rfl
theorem mlL_45 : Cond.methodLink RL 45 yX6_withdraw ∈ lw_g := lw_gm (i := 452) (by decide +kernel) rfl
theorem mlX6_65 : Cond.methodLink RX6 65 yX3_withdrawSack ∈ lw_g := lw_gm (i := 456) (by decide +kernel) rfl
theorem mlX3_149 : Cond.methodLink RX3 149 yX3_hasSack ∈ lw_g := lw_gm (i := 460) (by decide +kernel) rfl
theorem mlX3_156 : Cond.methodLink RX3 156 yX5_grain ∈ lw_g := lw_gm (i := 465) (by decide +kernel) rfl
theorem mlL_49 : Cond.methodLink RL 49 yX6_fetch ∈ lw_g := lw_gm (i := 469) (by decide +kernel) rfl
theorem mlX6_68 : Cond.methodLink RX6 68 yX3_fetchSack ∈ lw_g := lw_gm (i := 473) (by decide +kernel) rfl
theorem mlX3_163 : Cond.methodLink RX3 163 yX5_hasPledge ∈ lw_g := lw_gm (i := 477) (by decide +kernel) rfl
theorem mlX3_167 : Cond.methodLink RX3 167 yX5_flour ∈ lw_g := lw_gm (i := 481) (by decide +kernel) rfl
theorem mlL_53 : Cond.methodLink RL 53 yX6_kindOf ∈ lw_g := lw_gm (i := 485) (by decide +kernel) rfl
theorem mlX6_71 : Cond.methodLink RX6 71 yX3_hasKind ∈ lw_g := lw_gm (i := 489) (by decide +kernel) rfl
theorem mlX6_75 : Cond.methodLink RX6 75 yX6_within ∈ lw_g := lw_gm (i := 490) (by decide +kernel) rfl
theorem mlX6_80 : Cond.methodLink RX6 80 yX3_tellKind ∈ lw_g := lw_gm (i := 492) (by decide +kernel) rfl
theorem mlX3_170 : Cond.methodLink RX3 170 yX3_sacksBrought ∈ lw_g := lw_gm (i := 496) (by decide +kernel) rfl
theorem mlX3_182 : Cond.methodLink RX3 182 yX5_isOf ∈ lw_g := lw_gm (i := 500) (by decide +kernel) rfl
theorem mlX3_174 : Cond.methodLink RX3 174 yX3_sumOf ∈ lw_g := lw_gm (i := 504) (by decide +kernel) rfl
theorem mlX3_186 : Cond.methodLink RX3 186 yX5_tell ∈ lw_g := lw_gm (i := 508) (by decide +kernel) rfl
theorem mlX5_71 : Cond.methodLink RX5 71 yX5_grain ∈ lw_g := lw_gm (i := 512) (by decide +kernel) rfl
theorem mlX5_75 : Cond.methodLink RX5 75 yX5_flour ∈ lw_g := lw_gm (i := 513) (by decide +kernel) rfl
theorem mlL_57 : Cond.methodLink RL 57 yX6_farmerOf ∈ lw_g := lw_gm (i := 514) (by decide +kernel) rfl
theorem mlX6_83 : Cond.methodLink RX6 83 yX3_hasFarmer ∈ lw_g := lw_gm (i := 518) (by decide +kernel) rfl
theorem mlX6_86 : Cond.methodLink RX6 86 yX3_tellFarmer ∈ lw_g := lw_gm (i := 519) (by decide +kernel) rfl
theorem mlX3_178 : Cond.methodLink RX3 178 yX3_pledgesOf ∈ lw_g := lw_gm (i := 523) (by decide +kernel) rfl
theorem mlL_61 : Cond.methodLink RL 61 yX6_sackOf ∈ lw_g := lw_gm (i := 527) (by decide +kernel) rfl
theorem mlX6_89 : Cond.methodLink RX6 89 yX3_hasSack ∈ lw_g := lw_gm (i := 531) (by decide +kernel) rfl
theorem mlX6_92 : Cond.methodLink RX6 92 yX3_placeInQueue ∈ lw_g := lw_gm (i := 532) (by decide +kernel) rfl
theorem mlX3_190 : Cond.methodLink RX3 190 yX3_waitsAheadOf ∈ lw_g := lw_gm (i := 537) (by decide +kernel) rfl
theorem mlX3_196 : Cond.methodLink RX3 196 yX3_rankInQueue ∈ lw_g := lw_gm (i := 541) (by decide +kernel) rfl
theorem mlX6_99 : Cond.methodLink RX6 99 yX5_tell ∈ lw_g := lw_gm (i := 545) (by decide +kernel) rfl
theorem mlL_65 : Cond.methodLink RL 65 yX6_queueAt ∈ lw_g := lw_gm (i := 546) (by decide +kernel) rfl
theorem mlX6_104 : Cond.methodLink RX6 104 yX3_sackAtPlace ∈ lw_g := lw_gm (i := 550) (by decide +kernel) rfl
theorem mlX3_193 : Cond.methodLink RX3 193 yX3_placeInQueue ∈ lw_g := lw_gm (i := 554) (by decide +kernel) rfl
theorem mlL_69 : Cond.methodLink RL 69 yX6_account ∈ lw_g := lw_gm (i := 555) (by decide +kernel) rfl
theorem mlX6_107 : Cond.methodLink RX6 107 yX3_sumOf ∈ lw_g := lw_gm (i := 559) (by decide +kernel) rfl
theorem mlL_73 : Cond.methodLink RL 73 yX6_earn ∈ lw_g := lw_gm (i := 560) (by decide +kernel) rfl
theorem mlX6_110 : Cond.methodLink RX6 110 yX3_addPence ∈ lw_g := lw_gm (i := 564) (by decide +kernel) rfl
theorem mlL_77 : Cond.methodLink RL 77 yX6_pledge ∈ lw_g := lw_gm (i := 570) (by decide +kernel) rfl
theorem mlX6_113 : Cond.methodLink RX6 113 yX3_putInPledge ∈ lw_g := lw_gm (i := 574) (by decide +kernel) rfl
theorem mlX3_213 : Cond.methodLink RX3 213 yX3_loanFor ∈ lw_g := lw_gm (i := 578) (by decide +kernel) rfl
theorem mlX3_223 : Cond.methodLink RX3 223 yX3_today ∈ lw_g := lw_gm (i := 583) (by decide +kernel) rfl
theorem mlL_81 : Cond.methodLink RL 81 yX6_owed ∈ lw_g := lw_gm (i := 587) (by decide +kernel) rfl
theorem mlX6_116 : Cond.methodLink RX6 116 yX5_hasPledge ∈ lw_g := lw_gm (i := 591) (by decide +kernel) rfl
theorem mlX6_120 : Cond.methodLink RX6 120 yX3_debtOf ∈ lw_g := lw_gm (i := 592) (by decide +kernel) rfl
theorem mlL_85 : Cond.methodLink RL 85 yX6_redeem ∈ lw_g := lw_gm (i := 599) (by decide +kernel) rfl
theorem mlX6_125 : Cond.methodLink RX6 125 yX3_redeemPledge ∈ lw_g := lw_gm (i := 603) (by decide +kernel) rfl
theorem mlX3_238 : Cond.methodLink RX3 238 yX3_debtOf ∈ lw_g := lw_gm (i := 607) (by decide +kernel) rfl
theorem mlX3_241 : Cond.methodLink RX3 241 yX5_endPledge ∈ lw_g := lw_gm (i := 608) (by decide +kernel) rfl
theorem mlL_89 : Cond.methodLink RL 89 yX6_pledgeAt ∈ lw_g := lw_gm (i := 609) (by decide +kernel) rfl
theorem mlX6_128 : Cond.methodLink RX6 128 yX3_sackOfPledge ∈ lw_g := lw_gm (i := 613) (by decide +kernel) rfl
theorem mlX3_244 : Cond.methodLink RX3 244 yX3_pledgesAheadOf ∈ lw_g := lw_gm (i := 617) (by decide +kernel) rfl
theorem mlX6_131 : Cond.methodLink RX6 131 yX3_tellPledge ∈ lw_g := lw_gm (i := 621) (by decide +kernel) rfl
theorem mlL_93 : Cond.methodLink RL 93 yX6_pass ∈ lw_g := lw_gm (i := 625) (by decide +kernel) rfl
theorem mlX6_134 : Cond.methodLink RX6 134 yX3_letPass ∈ lw_g := lw_gm (i := 629) (by decide +kernel) rfl
theorem mlX3_250 : Cond.methodLink RX3 250 yX3_step ∈ lw_g := lw_gm (i := 633) (by decide +kernel) rfl
theorem mlX3_253 : Cond.methodLink RX3 253 yX3_dropOldPledges ∈ lw_g := lw_gm (i := 637) (by decide +kernel) rfl
theorem mlX3_247 : Cond.methodLink RX3 247 yX5_fall ∈ lw_g := lw_gm (i := 641) (by decide +kernel) rfl
theorem mlX3_256 : Cond.methodLink RX3 256 yX3_seaAt ∈ lw_g := lw_gm (i := 645) (by decide +kernel) rfl
theorem mlX3_259 : Cond.methodLink RX3 259 yX3_flowIn ∈ lw_g := lw_gm (i := 655) (by decide +kernel) rfl
theorem mlX3_277 : Cond.methodLink RX3 277 yX3_level ∈ lw_g := lw_gm (i := 659) (by decide +kernel) rfl
theorem mlX3_263 : Cond.methodLink RX3 263 yX3_leakOut ∈ lw_g := lw_gm (i := 666) (by decide +kernel) rfl
theorem mlX3_266 : Cond.methodLink RX3 266 yX3_grind ∈ lw_g := lw_gm (i := 670) (by decide +kernel) rfl
theorem mlX3_283 : Cond.methodLink RX3 283 yX3_firstOfQueue ∈ lw_g := lw_gm (i := 674) (by decide +kernel) rfl
theorem mlX3_286 : Cond.methodLink RX3 286 yX3_putOnStones ∈ lw_g := lw_gm (i := 678) (by decide +kernel) rfl
theorem mlX3_289 : Cond.methodLink RX3 289 yX3_grindSack ∈ lw_g := lw_gm (i := 682) (by decide +kernel) rfl
theorem mlX3_299 : Cond.methodLink RX3 299 yX5_addGround ∈ lw_g := lw_gm (i := 689) (by decide +kernel) rfl
theorem mlL_97 : Cond.methodLink RL 97 yX6_seaIn ∈ lw_g := lw_gm (i := 693) (by decide +kernel) rfl
theorem mlX6_141 : Cond.methodLink RX6 141 yX3_seaAt ∈ lw_g := lw_gm (i := 697) (by decide +kernel) rfl
theorem mlL_101 : Cond.methodLink RL 101 yX6_nextHigh ∈ lw_g := lw_gm (i := 698) (by decide +kernel) rfl
theorem mlX6_144 : Cond.methodLink RX6 144 yX3_stepsToHigh ∈ lw_g := lw_gm (i := 702) (by decide +kernel) rfl
theorem mlL_105 : Cond.methodLink RL 105 yX6_pond ∈ lw_g := lw_gm (i := 706) (by decide +kernel) rfl
theorem mlX6_147 : Cond.methodLink RX6 147 yX3_tellPond ∈ lw_g := lw_gm (i := 710) (by decide +kernel) rfl
theorem mlL_109 : Cond.methodLink RL 109 yX6_foresee ∈ lw_g := lw_gm (i := 714) (by decide +kernel) rfl
theorem mlX6_154 : Cond.methodLink RX6 154 yX3_copyFrom ∈ lw_g := lw_gm (i := 719) (by decide +kernel) rfl
theorem mlX6_157 : Cond.methodLink RX6 157 yX3_step ∈ lw_g := lw_gm (i := 720) (by decide +kernel) rfl
theorem mlL_113 : Cond.methodLink RL 113 yX6_bestGate ∈ lw_g := lw_gm (i := 721) (by decide +kernel) rfl
theorem mlX6_160 : Cond.methodLink RX6 160 yX6_groundBy ∈ lw_g := lw_gm (i := 725) (by decide +kernel) rfl
theorem mlL_117 : Cond.methodLink RL 117 yX6_count ∈ lw_g := lw_gm (i := 729) (by decide +kernel) rfl
theorem mlX6_173 : Cond.methodLink RX6 173 yX3_countOf ∈ lw_g := lw_gm (i := 733) (by decide +kernel) rfl
theorem mlX3_302 : Cond.methodLink RX3 302 yX3_sacksInStage ∈ lw_g := lw_gm (i := 737) (by decide +kernel) rfl
theorem mlL_121 : Cond.methodLink RL 121 yX6_undo ∈ lw_g := lw_gm (i := 741) (by decide +kernel) rfl
theorem mlX6_176 : Cond.methodLink RX6 176 yX1_restore ∈ lw_g := lw_gm (i := 745) (by decide +kernel) rfl
theorem mlL_125 : Cond.methodLink RL 125 yX6_type ∈ lw_g := lw_gm (i := 750) (by decide +kernel) rfl
theorem mlX6_180 : Cond.methodLink RX6 180 yX4_append ∈ lw_g := lw_gm (i := 754) (by decide +kernel) rfl
theorem mlL_129 : Cond.methodLink RL 129 yX6_clearText ∈ lw_g := lw_gm (i := 759) (by decide +kernel) rfl
theorem mlX6_184 : Cond.methodLink RX6 184 yX4_empty ∈ lw_g := lw_gm (i := 763) (by decide +kernel) rfl
theorem mlL_133 : Cond.methodLink RL 133 yX6_fault ∈ lw_g := lw_gm (i := 767) (by decide +kernel) rfl
theorem mlX6_187 : Cond.methodLink RX6 187 yX4_doAll ∈ lw_g := lw_gm (i := 771) (by decide +kernel) rfl
theorem mlX4_36 : Cond.methodLink RX4 36 yX4_readOrder ∈ lw_g := lw_gm (i := 775) (by decide +kernel) rfl
theorem mlX4_44 : Cond.methodLink RX4 44 yX4_numbersAfter ∈ lw_g := lw_gm (i := 779) (by decide +kernel) rfl
theorem mlX4_48 : Cond.methodLink RX4 48 yX4_readSign ∈ lw_g := lw_gm (i := 782) (by decide +kernel) rfl
theorem mlX4_52 : Cond.methodLink RX4 52 yX4_readNumber ∈ lw_g := lw_gm (i := 786) (by decide +kernel) rfl
theorem mlX4_40 : Cond.methodLink RX4 40 yX4_doOrder ∈ lw_g := lw_gm (i := 791) (by decide +kernel) rfl
theorem mlX4_60 : Cond.methodLink RX4 60 yX4_isKnown ∈ lw_g := lw_gm (i := 795) (by decide +kernel) rfl
theorem mlX4_67 : Cond.methodLink RX4 67 yX3_hasFarmer ∈ lw_g := lw_gm (i := 799) (by decide +kernel) rfl
theorem mlX4_72 : Cond.methodLink RX4 72 yX3_hasKind ∈ lw_g := lw_gm (i := 800) (by decide +kernel) rfl
theorem mlX4_75 : Cond.methodLink RX4 75 yX3_hasSack ∈ lw_g := lw_gm (i := 801) (by decide +kernel) rfl
theorem mlX4_64 : Cond.methodLink RX4 64 yX4_answerOf ∈ lw_g := lw_gm (i := 802) (by decide +kernel) rfl
theorem mlX4_78 : Cond.methodLink RX4 78 yX3_addSack ∈ lw_g := lw_gm (i := 806) (by decide +kernel) rfl
theorem mlX4_82 : Cond.methodLink RX4 82 yX3_fetchSack ∈ lw_g := lw_gm (i := 807) (by decide +kernel) rfl
theorem mlX4_86 : Cond.methodLink RX4 86 yX3_putInPledge ∈ lw_g := lw_gm (i := 808) (by decide +kernel) rfl
theorem mlX4_90 : Cond.methodLink RX4 90 yX3_redeemPledge ∈ lw_g := lw_gm (i := 809) (by decide +kernel) rfl
theorem mlX4_93 : Cond.methodLink RX4 93 yX3_changeOpening ∈ lw_g := lw_gm (i := 810) (by decide +kernel) rfl
theorem mlL_137 : Cond.methodLink RL 137 yX6_play ∈ lw_g := lw_gm (i := 811) (by decide +kernel) rfl
theorem mlL_17 : Cond.methodLink RL 17 yX7_set ∈ lw_g := lw_gm (i := 852) (by decide +kernel) rfl
theorem mlX7_29 : Cond.methodLink RX7 29 yX7_in ∈ lw_g := lw_gm (i := 856) (by decide +kernel) rfl
theorem mlX7_118 : Cond.methodLink RX7 118 yX7_low ∈ lw_g := lw_gm (i := 859) (by decide +kernel) rfl
theorem mlX7_121 : Cond.methodLink RX7 121 yX7_high ∈ lw_g := lw_gm (i := 862) (by decide +kernel) rfl
theorem mlX7_124 : Cond.methodLink RX7 124 yX7_keeps ∈ lw_g := lw_gm (i := 866) (by decide +kernel) rfl
theorem mlX7_127 : Cond.methodLink RX7 127 yX7_acted ∈ lw_g := lw_gm (i := 870) (by decide +kernel) rfl
theorem mlL_21 : Cond.methodLink RL 21 yX7_leak ∈ lw_g := lw_gm (i := 874) (by decide +kernel) rfl
theorem mlL_26 : Cond.methodLink RL 26 yX7_lock ∈ lw_g := lw_gm (i := 878) (by decide +kernel) rfl
theorem mlL_30 : Cond.methodLink RL 30 yX7_gate ∈ lw_g := lw_gm (i := 882) (by decide +kernel) rfl
theorem mlX7_130 : Cond.methodLink RX7 130 yX7_gates ∈ lw_g := lw_gm (i := 886) (by decide +kernel) rfl
theorem mlL_35 : Cond.methodLink RL 35 yX7_kind ∈ lw_g := lw_gm (i := 890) (by decide +kernel) rfl
theorem mlL_40 : Cond.methodLink RL 40 yX7_farmer ∈ lw_g := lw_gm (i := 896) (by decide +kernel) rfl
theorem mlL_44 : Cond.methodLink RL 44 yX7_bring ∈ lw_g := lw_gm (i := 900) (by decide +kernel) rfl
theorem mlX7_134 : Cond.methodLink RX7 134 yX7_brings ∈ lw_g := lw_gm (i := 904) (by decide +kernel) rfl
theorem mlX7_94 : Cond.methodLink RX7 94 yX7_isFarmer ∈ lw_g := lw_gm (i := 908) (by decide +kernel) rfl
theorem mlX7_98 : Cond.methodLink RX7 98 yX7_isKind ∈ lw_g := lw_gm (i := 912) (by decide +kernel) rfl
theorem mlX7_64 : Cond.methodLink RX7 64 yX7_put ∈ lw_g := lw_gm (i := 916) (by decide +kernel) rfl
theorem mlL_48 : Cond.methodLink RL 48 yX7_withdraw ∈ lw_g := lw_gm (i := 920) (by decide +kernel) rfl
theorem mlX7_102 : Cond.methodLink RX7 102 yX7_isSack ∈ lw_g := lw_gm (i := 924) (by decide +kernel) rfl
theorem mlX7_38 : Cond.methodLink RX7 38 yX7_of ∈ lw_g := lw_gm (i := 928) (by decide +kernel) rfl
theorem mlL_52 : Cond.methodLink RL 52 yX7_fetch ∈ lw_g := lw_gm (i := 933) (by decide +kernel) rfl
theorem mlX7_138 : Cond.methodLink RX7 138 yX7_fetches ∈ lw_g := lw_gm (i := 937) (by decide +kernel) rfl
theorem mlX7_106 : Cond.methodLink RX7 106 yX7_flour ∈ lw_g := lw_gm (i := 941) (by decide +kernel) rfl
theorem mlX7_42 : Cond.methodLink RX7 42 yX7_toll ∈ lw_g := lw_gm (i := 945) (by decide +kernel) rfl
theorem mlX7_46 : Cond.methodLink RX7 46 yX7_dust ∈ lw_g := lw_gm (i := 949) (by decide +kernel) rfl
theorem mlL_56 : Cond.methodLink RL 56 yX7_kindOf ∈ lw_g := lw_gm (i := 953) (by decide +kernel) rfl
theorem mlX7_144 : Cond.methodLink RX7 144 yX7_many ∈ lw_g := lw_gm (i := 957) (by decide +kernel) rfl
theorem mlX7_148 : Cond.methodLink RX7 148 yX7_sum ∈ lw_g := lw_gm (i := 961) (by decide +kernel) rfl
theorem mlX7_141 : Cond.methodLink RX7 141 yX7_told ∈ lw_g := lw_gm (i := 965) (by decide +kernel) rfl
theorem mlX7_82 : Cond.methodLink RX7 82 yX7_grain ∈ lw_g := lw_gm (i := 969) (by decide +kernel) rfl
theorem mlL_60 : Cond.methodLink RL 60 yX7_farmerOf ∈ lw_g := lw_gm (i := 973) (by decide +kernel) rfl
theorem mlX7_49 : Cond.methodLink RX7 49 yX7_came ∈ lw_g := lw_gm (i := 977) (by decide +kernel) rfl
theorem mlL_64 : Cond.methodLink RL 64 yX7_sackOf ∈ lw_g := lw_gm (i := 981) (by decide +kernel) rfl
theorem mlX7_58 : Cond.methodLink RX7 58 yX7_placeOf ∈ lw_g := lw_gm (i := 985) (by decide +kernel) rfl
theorem mlX7_55 : Cond.methodLink RX7 55 yX7_weight ∈ lw_g := lw_gm (i := 989) (by decide +kernel) rfl
theorem mlX7_52 : Cond.methodLink RX7 52 yX7_hardness ∈ lw_g := lw_gm (i := 993) (by decide +kernel) rfl
theorem mlL_68 : Cond.methodLink RL 68 yX7_queueAt ∈ lw_g := lw_gm (i := 998) (by decide +kernel) rfl
theorem mlX7_75 : Cond.methodLink RX7 75 yX7_waitingAt ∈ lw_g := lw_gm (i := 1002) (by decide +kernel) rfl
theorem mlL_72 : Cond.methodLink RL 72 yX7_account ∈ lw_g := lw_gm (i := 1006) (by decide +kernel) rfl
theorem mlL_76 : Cond.methodLink RL 76 yX7_earn ∈ lw_g := lw_gm (i := 1010) (by decide +kernel) rfl
theorem mlL_80 : Cond.methodLink RL 80 yX7_pledge ∈ lw_g := lw_gm (i := 1016) (by decide +kernel) rfl
theorem mlX7_153 : Cond.methodLink RX7 153 yX7_pledges ∈ lw_g := lw_gm (i := 1020) (by decide +kernel) rfl
theorem mlX7_111 : Cond.methodLink RX7 111 yX7_product ∈ lw_g := lw_gm (i := 1024) (by decide +kernel) rfl
theorem mlL_84 : Cond.methodLink RL 84 yX7_owed ∈ lw_g := lw_gm (i := 1028) (by decide +kernel) rfl
theorem mlX7_115 : Cond.methodLink RX7 115 yX7_owes ∈ lw_g := lw_gm (i := 1032) (by decide +kernel) rfl
theorem mlL_88 : Cond.methodLink RL 88 yX7_redeem ∈ lw_g := lw_gm (i := 1036) (by decide +kernel) rfl
theorem mlX7_156 : Cond.methodLink RX7 156 yX7_redeems ∈ lw_g := lw_gm (i := 1040) (by decide +kernel) rfl
theorem mlL_92 : Cond.methodLink RL 92 yX7_pledgeAt ∈ lw_g := lw_gm (i := 1044) (by decide +kernel) rfl
theorem mlX7_159 : Cond.methodLink RX7 159 yX7_ahead ∈ lw_g := lw_gm (i := 1048) (by decide +kernel) rfl
theorem mlL_96 : Cond.methodLink RL 96 yX7_pass ∈ lw_g := lw_gm (i := 1052) (by decide +kernel) rfl
theorem mlX7_162 : Cond.methodLink RX7 162 yX7_goes ∈ lw_g := lw_gm (i := 1056) (by decide +kernel) rfl
theorem mlX7_85 : Cond.methodLink RX7 85 yX7_falls ∈ lw_g := lw_gm (i := 1060) (by decide +kernel) rfl
theorem mlX7_88 : Cond.methodLink RX7 88 yX7_flows ∈ lw_g := lw_gm (i := 1064) (by decide +kernel) rfl
theorem mlX7_68 : Cond.methodLink RX7 68 yX7_head ∈ lw_g := lw_gm (i := 1068) (by decide +kernel) rfl
theorem mlX7_61 : Cond.methodLink RX7 61 yX7_sea ∈ lw_g := lw_gm (i := 1072) (by decide +kernel) rfl
theorem mlX7_91 : Cond.methodLink RX7 91 yX7_grinds ∈ lw_g := lw_gm (i := 1076) (by decide +kernel) rfl
theorem mlX7_72 : Cond.methodLink RX7 72 yX7_sacksIn ∈ lw_g := lw_gm (i := 1080) (by decide +kernel) rfl
theorem mlX7_78 : Cond.methodLink RX7 78 yX7_comes ∈ lw_g := lw_gm (i := 1084) (by decide +kernel) rfl
theorem mlL_100 : Cond.methodLink RL 100 yX7_seaIn ∈ lw_g := lw_gm (i := 1088) (by decide +kernel) rfl
theorem mlL_104 : Cond.methodLink RL 104 yX7_nextHigh ∈ lw_g := lw_gm (i := 1092) (by decide +kernel) rfl
theorem mlL_108 : Cond.methodLink RL 108 yX7_pond ∈ lw_g := lw_gm (i := 1096) (by decide +kernel) rfl
theorem mlL_112 : Cond.methodLink RL 112 yX7_foresee ∈ lw_g := lw_gm (i := 1100) (by decide +kernel) rfl
theorem mlX7_165 : Cond.methodLink RX7 165 yX7_lays ∈ lw_g := lw_gm (i := 1104) (by decide +kernel) rfl
theorem mlX7_168 : Cond.methodLink RX7 168 yX7_restores ∈ lw_g := lw_gm (i := 1108) (by decide +kernel) rfl
theorem mlL_116 : Cond.methodLink RL 116 yX7_bestGate ∈ lw_g := lw_gm (i := 1112) (by decide +kernel) rfl
theorem mlL_120 : Cond.methodLink RL 120 yX7_count ∈ lw_g := lw_gm (i := 1116) (by decide +kernel) rfl
theorem mlL_124 : Cond.methodLink RL 124 yX7_undo ∈ lw_g := lw_gm (i := 1120) (by decide +kernel) rfl
theorem mlL_128 : Cond.methodLink RL 128 yX7_type ∈ lw_g := lw_gm (i := 1124) (by decide +kernel) rfl
theorem mlL_132 : Cond.methodLink RL 132 yX7_clearText ∈ lw_g := lw_gm (i := 1128) (by decide +kernel) rfl
theorem mlL_136 : Cond.methodLink RL 136 yX7_fault ∈ lw_g := lw_gm (i := 1132) (by decide +kernel) rfl
theorem mlX7_200 : Cond.methodLink RX7 200 yX7_faulty ∈ lw_g := lw_gm (i := 1136) (by decide +kernel) rfl
theorem mlX7_194 : Cond.methodLink RX7 194 yX7_doesNext ∈ lw_g := lw_gm (i := 1140) (by decide +kernel) rfl
theorem mlX7_184 : Cond.methodLink RX7 184 yX7_numbers ∈ lw_g := lw_gm (i := 1144) (by decide +kernel) rfl
theorem mlX7_188 : Cond.methodLink RX7 188 yX7_readsForm ∈ lw_g := lw_gm (i := 1147) (by decide +kernel) rfl
theorem mlX7_177 : Cond.methodLink RX7 177 yX7_passes ∈ lw_g := lw_gm (i := 1151) (by decide +kernel) rfl
theorem mlX7_181 : Cond.methodLink RX7 181 yX7_takes ∈ lw_g := lw_gm (i := 1155) (by decide +kernel) rfl
theorem mlX7_191 : Cond.methodLink RX7 191 yX7_does ∈ lw_g := lw_gm (i := 1159) (by decide +kernel) rfl
theorem mlL_140 : Cond.methodLink RL 140 yX7_play ∈ lw_g := lw_gm (i := 1163) (by decide +kernel) rfl
theorem cnX3_120 : Cond.constant RX3 120 (-1000001) ∈ lw_g := lw_gm (i := 381) (by decide +kernel) rfl
theorem cnX3_121 : Cond.constant RX3 121 (1000000) ∈ lw_g := lw_gm (i := 418) (by decide +kernel) rfl
theorem cnX3_122 : Cond.constant RX3 122 (-1000003) ∈ lw_g := lw_gm (i := 419) (by decide +kernel) rfl
theorem cnX3_155 : Cond.constant RX3 155 (-1000002) ∈ lw_g := lw_gm (i := 464) (by decide +kernel) rfl
theorem cnX6_79 : Cond.constant RX6 79 (-1000001) ∈ lw_g := lw_gm (i := 491) (by decide +kernel) rfl
theorem cnX3_189 : Cond.constant RX3 189 (-1000004) ∈ lw_g := lw_gm (i := 536) (by decide +kernel) rfl
theorem cnX3_210 : Cond.constant RX3 210 (1000000000) ∈ lw_g := lw_gm (i := 568) (by decide +kernel) rfl
theorem cnX3_211 : Cond.constantLong RX3 211 (2147483647) ∈ lw_g := lw_gm (i := 569) (by decide +kernel) rfl
theorem cnX3_233 : Cond.constantLong RX3 233 (100) ∈ lw_g := lw_gm (i := 582) (by decide +kernel) rfl
theorem cnX3_235 : Cond.constant RX3 235 (2147483647) ∈ lw_g := lw_gm (i := 596) (by decide +kernel) rfl
theorem cnX3_236 : Cond.constantLong RX3 236 (1000) ∈ lw_g := lw_gm (i := 597) (by decide +kernel) rfl
theorem cnX6_124 : Cond.constant RX6 124 (-1000004) ∈ lw_g := lw_gm (i := 598) (by decide +kernel) rfl
theorem cnX6_153 : Cond.constant RX6 153 (-1000002) ∈ lw_g := lw_gm (i := 718) (by decide +kernel) rfl
theorem cnX1_29 : Cond.constant RX1 29 (-1000002) ∈ lw_g := lw_gm (i := 749) (by decide +kernel) rfl
theorem cnX4_23 : Cond.constant RX4 23 (-1000003) ∈ lw_g := lw_gm (i := 758) (by decide +kernel) rfl
theorem cnX7_33 : Cond.constant RX7 33 (-1000001) ∈ lw_g := lw_gm (i := 865) (by decide +kernel) rfl
theorem cnX7_133 : Cond.constant RX7 133 (1000000) ∈ lw_g := lw_gm (i := 894) (by decide +kernel) rfl
theorem cnX7_101 : Cond.constant RX7 101 (-1000003) ∈ lw_g := lw_gm (i := 895) (by decide +kernel) rfl
theorem cnX7_105 : Cond.constant RX7 105 (-1000002) ∈ lw_g := lw_gm (i := 932) (by decide +kernel) rfl
theorem cnX7_151 : Cond.constant RX7 151 (-1000004) ∈ lw_g := lw_gm (i := 997) (by decide +kernel) rfl
theorem cnX7_152 : Cond.constant RX7 152 (1000000000) ∈ lw_g := lw_gm (i := 1014) (by decide +kernel) rfl
theorem cnX7_114 : Cond.constant RX7 114 (2147483647) ∈ lw_g := lw_gm (i := 1015) (by decide +kernel) rfl
theorem cnX7_109 : Cond.constantLong RX7 109 (2147483647) ∈ lw_g := lw_gm (i := 1027) (by decide +kernel) rfl
theorem kw_min : Cond.static Lib.Math.min.name ∈ lw_g ∧ Cond.initialized "java/lang/Math" ∈ lw_g ∧ Cond.code Lib.Math.min.name Lib.Math.min.code 2 (some .int) ∈ lw_g := ⟨lw_gm (i := 664) (by decide +kernel) rfl, lw_gm (i := 75) (by decide +kernel) rfl, lw_gm (i := 665) (by decide +kernel) rfl⟩
theorem mlX3_280 : Cond.methodLink RX3 280 Lib.Math.min.name ∈ lw_g := lw_gm (i := 663) (by decide +kernel) rfl
theorem kw_max : Cond.static Lib.Math.max.name ∈ lw_g ∧ Cond.initialized "java/lang/Math" ∈ lw_g ∧ Cond.code Lib.Math.max.name Lib.Math.max.code 2 (some .int) ∈ lw_g := ⟨lw_gm (i := 687) (by decide +kernel) rfl, lw_gm (i := 75) (by decide +kernel) rfl, lw_gm (i := 688) (by decide +kernel) rfl⟩
theorem mlX3_296 : Cond.methodLink RX3 296 Lib.Math.max.name ∈ lw_g := lw_gm (i := 686) (by decide +kernel) rfl
theorem kw_abs : Cond.static Lib.Math.abs.name ∈ lw_g ∧ Cond.initialized "java/lang/Math" ∈ lw_g ∧ Cond.code Lib.Math.abs.name Lib.Math.abs.code 1 (some .int) ∈ lw_g := ⟨lw_gm (i := 653) (by decide +kernel) rfl, lw_gm (i := 75) (by decide +kernel) rfl, lw_gm (i := 654) (by decide +kernel) rfl⟩
theorem mlX3_272 : Cond.methodLink RX3 272 Lib.Math.abs.name ∈ lw_g := lw_gm (i := 652) (by decide +kernel) rfl
end
section
/-- a depth of calls -/
def k_R (d : Nat) : Room := { frames := d, cells := 0, slots := 0, locals := 30 * d }
theorem k_rm_of {d' d nL' : Nat} (h : d' + 1 ≤ d) (hn : nL' ≤ 11) : k_rm (k_R d') (k_R d) nL' := ⟨rfl, rfl, h, by show 8 + (nL' + 11) + 30 * d' ≤ 30 * d; omega⟩
/-- more steps than any loop here takes -/
def kFu : Nat := 5000
def k_on (M : kM2) (i : Nat) (o : Option (Int32 × kM1)) : Option (Int32 × kM2) := o.map fun q => (q.1, up M i q.2)
/-- n elements of one row over another's -/
def k_cp (M : kM2) (i i1 j n : Nat) : kM2 := up M i fun j' => if j' = j then va_cpy (M i1 j) (M i j) 0 0 n else M i j'
theorem CT.lift2 {l : Launch} {Γ : kG} {M : kM2} {i : Nat} {y : MethodName} {cc : ByteArray} {nL : Nat} {ret : Option FieldType} {rm : Room} {As : List Value} {o : Option (Int32 × kM1)} (h : CT l Γ (K1 Γ M i) y cc nL ret rm As (M i) o) : CT l Γ (K2 Γ) y cc nL ret rm As M (k_on M i o) := CT.lift h
theorem cw_copy : Cond.methodLink RX3 57 arraycopyName ∈ lw_g ∧ Cond.native arraycopyName ∈ lw_g ∧ Cond.static arraycopyName ∈ lw_g ∧ Cond.initialized "java/lang/System" ∈ lw_g := ⟨lw_gm (i := 351) (by decide +kernel) rfl, lw_gm (i := 353) (by decide +kernel) rfl, lw_gm (i := 352) (by decide +kernel) rfl, lw_gm (i := 74) (by decide +kernel) rfl⟩
section KC2
variable {μ : Type} {Γ : kG} {K : Nat × (μ → Nat → Nat → va_E)} {p : Program} {l : Launch} {e : Env} {R : Room} {s : State} {m : MethodId} {args : Array Value} {below : List Frame} {meth : Method} {c : Code} {cc : ByteArray} {nL : Nat} {own : String} {rm : Room} {rt : Bool} {x : μ} {lv : List (Nat × Value)} {st : List Value} {pc pc' : Nat} {o o1 o2 : Option (Int32 × μ)}

theorem k_callVi (C : k_C Γ p R s m args meth c cc nL own rm) {y : MethodName} {cc' : ByteArray} {nL' idx n : Nat} {ty : FieldType} {rm' : Room} {i j ci : Nat} {fs : List Value} {As rest : List Value} {o1 : Option (Int32 × μ)} {f : Int32 → μ → Option (Int32 × μ)} (hC : CT l Γ K y cc' nL' (some ty) rm' (.ref (Γ.1 i j) :: As) x o1) (F : k_mw y cc' nL' (some ty) n) (G : k_iw y) (hlk : Cond.methodLink own idx y ∈ lw_g) (hrm : k_rm rm' rm nL') (hce : K.2 x i j = .inr (ci, fs)) (hij : 44 * i + j < K.1 ∧ j < 44) (hc : (vwCl[ci]?).map (fun q => q.1) = some y.cls) (hn : As.length = n) (hst : st = As.reverse ++ .ref (Γ.1 i j) :: rest) (hcat : (rest.map fun v => v.category).sum ≤ 8) (hd : decode cc pc = .ok (.invokevirtual idx, 3)) (hpc : pc + 3 = pc') (k : ∀ (r : Int32) (x : μ), Sm Γ K p l e R s m args below meth c nL rt x lv (.int r :: rest) pc' (f r x)) : Sm Γ K p l e R s m args below meth c nL rt x lv st pc (bd o1 f) := k_callV C hC F G hlk hrm hce hij hc hn hst hcat hd hpc k
theorem k_callVv (C : k_C Γ p R s m args meth c cc nL own rm) {y : MethodName} {cc' : ByteArray} {nL' idx n : Nat}  {rm' : Room} {i j ci : Nat} {fs : List Value} {As rest : List Value} {o1 : Option (Int32 × μ)} {f : Int32 → μ → Option (Int32 × μ)} (hC : CT l Γ K y cc' nL' none rm' (.ref (Γ.1 i j) :: As) x o1) (F : k_mw y cc' nL' none n) (G : k_iw y) (hlk : Cond.methodLink own idx y ∈ lw_g) (hrm : k_rm rm' rm nL') (hce : K.2 x i j = .inr (ci, fs)) (hij : 44 * i + j < K.1 ∧ j < 44) (hc : (vwCl[ci]?).map (fun q => q.1) = some y.cls) (hn : As.length = n) (hst : st = As.reverse ++ .ref (Γ.1 i j) :: rest) (hcat : (rest.map fun v => v.category).sum ≤ 8) (hd : decode cc pc = .ok (.invokevirtual idx, 3)) (hpc : pc + 3 = pc') (k : ∀ (r : Int32) (x : μ), Sm Γ K p l e R s m args below meth c nL rt x lv rest pc' (f r x)) : Sm Γ K p l e R s m args below meth c nL rt x lv st pc (bd o1 f) := k_callV C hC F G hlk hrm hce hij hc hn hst hcat hd hpc k
theorem k_callSi (C : k_C Γ p R s m args meth c cc nL own rm) {y : MethodName} {cc' : ByteArray} {nL' idx n : Nat} {ty : FieldType} {rm' : Room}  {As rest : List Value} {o1 : Option (Int32 × μ)} {f : Int32 → μ → Option (Int32 × μ)} (hC : CT l Γ K y cc' nL' (some ty) rm' As x o1) (F : k_mw y cc' nL' (some ty) n) (G : Cond.static y ∈ lw_g) (hlk : Cond.methodLink own idx y ∈ lw_g) (hrm : k_rm rm' rm nL') (hn : As.length = n) (hst : st = As.reverse ++ rest) (hcat : (rest.map fun v => v.category).sum ≤ 8) (hd : decode cc pc = .ok (.invokestatic idx, 3)) (hpc : pc + 3 = pc') (k : ∀ (r : Int32) (x : μ), Sm Γ K p l e R s m args below meth c nL rt x lv (.int r :: rest) pc' (f r x)) : Sm Γ K p l e R s m args below meth c nL rt x lv st pc (bd o1 f) := k_callS C hC F G hlk hrm hn hst hcat hd hpc k
theorem k_callSv (C : k_C Γ p R s m args meth c cc nL own rm) {y : MethodName} {cc' : ByteArray} {nL' idx n : Nat}  {rm' : Room}  {As rest : List Value} {o1 : Option (Int32 × μ)} {f : Int32 → μ → Option (Int32 × μ)} (hC : CT l Γ K y cc' nL' none rm' As x o1) (F : k_mw y cc' nL' none n) (G : Cond.static y ∈ lw_g) (hlk : Cond.methodLink own idx y ∈ lw_g) (hrm : k_rm rm' rm nL') (hn : As.length = n) (hst : st = As.reverse ++ rest) (hcat : (rest.map fun v => v.category).sum ≤ 8) (hd : decode cc pc = .ok (.invokestatic idx, 3)) (hpc : pc + 3 = pc') (k : ∀ (r : Int32) (x : μ), Sm Γ K p l e R s m args below meth c nL rt x lv rest pc' (f r x)) : Sm Γ K p l e R s m args below meth c nL rt x lv st pc (bd o1 f) := k_callS C hC F G hlk hrm hn hst hcat hd hpc k
theorem k_callSNi (C : k_C Γ p R s m args meth c cc nL own rm) {y : MethodName} {cc' : ByteArray} {nL' idx n : Nat} {ty : FieldType} {rm' : Room} {host : String} {As rest : List Value} {o1 : Option (Int32 × μ)} {f : Int32 → μ → Option (Int32 × μ)} (hC : CT l Γ K y cc' nL' (some ty) rm' As x o1) (F : k_mw y cc' nL' (some ty) n) (G : Cond.static y ∈ lw_g) (hlk : k_nw s → va_Nw (.methodLinkNest own idx y host) s) (hrm : k_rm rm' rm nL') (hn : As.length = n) (hst : st = As.reverse ++ rest) (hcat : (rest.map fun v => v.category).sum ≤ 8) (hd : decode cc pc = .ok (.invokestatic idx, 3)) (hpc : pc + 3 = pc') (k : ∀ (r : Int32) (x : μ), Sm Γ K p l e R s m args below meth c nL rt x lv (.int r :: rest) pc' (f r x)) : Sm Γ K p l e R s m args below meth c nL rt x lv st pc (bd o1 f) := k_callSN C hC F G hlk hrm hn hst hcat hd hpc k
theorem k_callSNv (C : k_C Γ p R s m args meth c cc nL own rm) {y : MethodName} {cc' : ByteArray} {nL' idx n : Nat}  {rm' : Room} {host : String} {As rest : List Value} {o1 : Option (Int32 × μ)} {f : Int32 → μ → Option (Int32 × μ)} (hC : CT l Γ K y cc' nL' none rm' As x o1) (F : k_mw y cc' nL' none n) (G : Cond.static y ∈ lw_g) (hlk : k_nw s → va_Nw (.methodLinkNest own idx y host) s) (hrm : k_rm rm' rm nL') (hn : As.length = n) (hst : st = As.reverse ++ rest) (hcat : (rest.map fun v => v.category).sum ≤ 8) (hd : decode cc pc = .ok (.invokestatic idx, 3)) (hpc : pc + 3 = pc') (k : ∀ (r : Int32) (x : μ), Sm Γ K p l e R s m args below meth c nL rt x lv rest pc' (f r x)) : Sm Γ K p l e R s m args below meth c nL rt x lv st pc (bd o1 f) := k_callSN C hC F G hlk hrm hn hst hcat hd hpc k
theorem k_ialdK (C : k_C Γ p R s m args meth c cc nL own rm) {i j n n0 : Nat} {f : Nat → Int32} {a : Int32} (hce : K.2 x i j = .inl (Γ.2.2.1 0, n, .inl f)) (hij : 44 * i + j < K.1 ∧ j < 44) (h0 : a.toNatClampNeg = n0) (h1 : ¬ a < 0 ∧ a.toNatClampNeg < n) (hd : decode cc pc = .ok (.iaload, 1)) (hpc : pc + 1 = pc') (k : Sm Γ K p l e R s m args below meth c nL rt x lv (.int (f n0) :: st) pc' o) : Sm Γ K p l e R s m args below meth c nL rt x lv (.int a :: .ref (Γ.1 i j) :: st) pc o := by
  have h := k_iald C (lv := lv) (st := st) (o := o) (e := e) (l := l) (below := below) (rt := rt) hce hij hd hpc (a := a) (fun _ => by rw [h0]; exact k)
  rw [if_pos h1] at h
  exact h
theorem k_caldK (C : k_C Γ p R s m args meth c cc nL own rm) {i j n n0 : Nat} {f : Nat → Int32} {a : Int32} (hce : K.2 x i j = .inl (Γ.2.2.1 1, n, .inl f)) (hij : 44 * i + j < K.1 ∧ j < 44) (h0 : a.toNatClampNeg = n0) (h1 : ¬ a < 0 ∧ a.toNatClampNeg < n) (hd : decode cc pc = .ok (.caload, 1)) (hpc : pc + 1 = pc') (k : Sm Γ K p l e R s m args below meth c nL rt x lv (.int (f n0) :: st) pc' o) : Sm Γ K p l e R s m args below meth c nL rt x lv (.int a :: .ref (Γ.1 i j) :: st) pc o := by
  have h := k_cald C (lv := lv) (st := st) (o := o) (e := e) (l := l) (below := below) (rt := rt) hce hij hd hpc (a := a) (fun _ => by rw [h0]; exact k)
  rw [if_pos h1] at h
  exact h
theorem k_iastK (C : k_C Γ p R s m args meth c cc nL own rm) {i j n n0 : Nat} {f : Nat → Int32} {a v : Int32} {x1 : μ} {f1 : μ → Option (Int32 × μ)} (hL : k_L Γ K) (hce : K.2 x i j = .inl (Γ.2.2.1 0, n, .inl f)) (hij : 44 * i + j < K.1 ∧ j < 44) (h0 : a.toNatClampNeg = n0) (h1 : ¬ a < 0 ∧ a.toNatClampNeg < n) (hset : ∀ i' j', K.2 x1 i' j' = if i' = i ∧ j' = j then .inl (Γ.2.2.1 0, n, .inl (upd f n0 v)) else K.2 x i' j') (hd : decode cc pc = .ok (.iastore, 1)) (hpc : pc + 1 = pc') (k : ∀ x : μ, Sm Γ K p l e R s m args below meth c nL rt x lv st pc' (f1 x)) : Sm Γ K p l e R s m args below meth c nL rt x lv (.int v :: .int a :: .ref (Γ.1 i j) :: st) pc (k_let x1 f1) := by
  subst h0
  have h := k_iast C (lv := lv) (st := st) (f1 := f1) (e := e) (l := l) (below := below) (rt := rt) hL hce hij hset hd hpc (fun _ => k)
  rw [if_pos h1] at h
  exact h
theorem k_copy2 {p : Program} {l : Launch} {e : Env} {R : Room} {s : State} {m : MethodId} {args : Array Value} {below : List Frame} {meth : Method} {c : Code} {cc : ByteArray} {nL : Nat} {rm : Room} {rt : Bool} {M : kM2} {lv : List (Nat × Value)} {st : List Value} {pc pc' : Nat} {f : kM2 → Option (Int32 × kM2)} (C : k_C Γ p R s m args meth c cc nL RX3 rm) (hL : k_Lay Γ 314) (hd : decode cc pc = .ok (.invokestatic 57, 3)) {i i1 j n : Nat} {nn : Int32} (hi1 : i1 < 7) (hi : i < 7) (hn : ¬ nn < 0 ∧ nn.toNatClampNeg = n ∧ j < 44) (e1 : ∀ r, ceI Γ i1 j r = .inl (Γ.2.2.1 0, n, .inl r)) (e0 : ∀ r, ceI Γ i j r = .inl (Γ.2.2.1 0, n, .inl r)) (hrm : 1 ≤ rm.frames ∧ (st.map fun v => v.category).sum + (nativeFrameWords "java/lang/System" "arraycopy" 5 + 11) ≤ rm.locals) (hpc : pc + 3 = pc') (k : ∀ M : kM2, Sm Γ (K2 Γ) p l e R s m args below meth c nL rt M lv st pc' (f M)) : Sm Γ (K2 Γ) p l e R s m args below meth c nL rt M lv (.int nn :: .int 0 :: .ref (Γ.1 i j) :: .int 0 :: .ref (Γ.1 i1 j) :: st) pc (k_let (k_cp M i i1 j n) f) := by
  subst hpc
  obtain ⟨hn0, hnn, hj⟩ := hn
  subst hnn
  intro r x' ho H locs ls hP hS hl
  obtain ⟨hx, hb, hml, hown, hlocks, hts, hK, hst', hR, hnw⟩ := id C
  subst hR
  have v0 : 44 * i + j < (K2 Γ).1 ∧ j < 44 := v_i hi hj
  have v1 : 44 * i1 + j < (K2 Γ).1 ∧ j < 44 := v_i hi1 hj
  have h0 := k_wl_at (Γ := Γ) (K := K2 Γ) (x := M) v0
  have h1 := k_wl_at (Γ := Γ) (K := K2 Γ) (x := M) v1
  rw [show (K2 Γ).2 M i j = _ from e0 (M i j)] at h0
  rw [show (K2 Γ).2 M i1 j = _ from e1 (M i1 j)] at h1
  refine va_copyi hx hb (hml.trans hl.1.symm) hown (hts _ cw_copy.1) (hts _ cw_copy.2.1) (hts _ cw_copy.2.2.1) (hts _ cw_copy.2.2.2) hK hP (hL.k2 M) hS (44 * i1 + j) (44 * i + j) 0 0 h1 h0 rfl rfl rfl (by decide) (by decide) hn0 (by simp) (by simp) (fun _ _ => rfl) hrm.1 hrm.2 hd (fun H1 locs1 hP1 hD1 hS1 => ?_)
  have hset : ∀ i' j', (K2 Γ).2 (k_cp M i i1 j nn.toNatClampNeg) i' j' = if i' = i ∧ j' = j then .inl (Γ.2.2.1 0, nn.toNatClampNeg, .inl (va_cpy (M i1 j) (M i j) (0 : Int32).toNatClampNeg (0 : Int32).toNatClampNeg nn.toNatClampNeg)) else (K2 Γ).2 M i' j' := by
    intro i' j'
    show ceI Γ i' j' (k_cp M i i1 j nn.toNatClampNeg i' j') = if i' = i ∧ j' = j then _ else ceI Γ i' j' (M i' j')
    unfold k_cp
    by_cases q1 : i' = i
    · subst q1
      rw [up_same]
      by_cases q2 : j' = j
      · subst q2
        rw [if_pos rfl, if_pos ⟨rfl, rfl⟩, e0]
        rfl
      · rw [if_neg q2, if_neg (fun z => q2 z.2)]
    · rw [up_ne M _ q1, if_neg (fun z => q1 z.1)]
  rw [k_wl_set v0 hset] at hP1
  exact k _ r x' ho H1 locs1 ls hP1 hS1 hl
end KC2
end
section
def fX4_numbersAfter {μ : Type} (x0 : μ) (a0 : Int32) : Option (Int32 × μ) :=
  if a0 = 98 then some (3, x0) else if a0 = 102 then some (1, x0) else if a0 = 103 then some (1, x0) else if a0 = 112 then some (2, x0) else if a0 = 114 then some (1, x0) else some (0, x0)
set_option maxRecDepth 100000 in
set_option maxHeartbeats 4000000 in
theorem qX4_numbersAfter {μ : Type} (l : Launch) (Γ : kG) (K : Nat × (μ → Nat → Nat → va_E)) (x0 : μ) (a0 : Int32) : CT l Γ K yX4_numbersAfter cX4_numbersAfter 1 (some .int) (k_R 0) [.int a0] x0 (fX4_numbersAfter x0 a0) := by
  refine k_meth (own := RX4) (by decide) rfl (Nat.le_of_ble_eq_true rfl) (fun p e R s mid args below meth c C hr => ?_)
  show Sm Γ K p l e R s mid args below meth c 1 true x0 [(0, .int a0)] [] 0 (fX4_numbersAfter x0 a0)
  unfold fX4_numbersAfter
  refine k_iload_n C 0 dX4_numbersAfter_0 rfl rfl (pc' := 1) rfl ?_
  refine k_ite (fun h1 => ?_) (fun h1 => ?_)
  · refine k_lsw C (off := 51) dX4_numbersAfter_1 (by decide) (by rw [h1]; rfl) (pc' := 52) (by decide) ?_
    refine k_iconst C (v := 3) dX4_numbersAfter_52 (by decide) (pc' := 53) rfl ?_
    exact k_reti C rfl hr dX4_numbersAfter_53
  refine k_ite (fun h2 => ?_) (fun h2 => ?_)
  · refine k_lsw C (off := 55) dX4_numbersAfter_1 (by decide) (by rw [h2]; rfl) (pc' := 56) (by decide) ?_
    refine k_iconst C (v := 1) dX4_numbersAfter_56 (by decide) (pc' := 57) rfl ?_
    exact k_reti C rfl hr dX4_numbersAfter_57
  refine k_ite (fun h3 => ?_) (fun h3 => ?_)
  · refine k_lsw C (off := 55) dX4_numbersAfter_1 (by decide) (by rw [h3]; rfl) (pc' := 56) (by decide) ?_
    refine k_iconst C (v := 1) dX4_numbersAfter_56 (by decide) (pc' := 57) rfl ?_
    exact k_reti C rfl hr dX4_numbersAfter_57
  refine k_ite (fun h4 => ?_) (fun h4 => ?_)
  · refine k_lsw C (off := 53) dX4_numbersAfter_1 (by decide) (by rw [h4]; rfl) (pc' := 54) (by decide) ?_
    refine k_iconst C (v := 2) dX4_numbersAfter_54 (by decide) (pc' := 55) rfl ?_
    exact k_reti C rfl hr dX4_numbersAfter_55
  refine k_ite (fun h5 => ?_) (fun h5 => ?_)
  · refine k_lsw C (off := 55) dX4_numbersAfter_1 (by decide) (by rw [h5]; rfl) (pc' := 56) (by decide) ?_
    refine k_iconst C (v := 1) dX4_numbersAfter_56 (by decide) (pc' := 57) rfl ?_
    exact k_reti C rfl hr dX4_numbersAfter_57
  refine k_lsw C (off := 57) dX4_numbersAfter_1 (by decide) ((lv_osw h1 (by decide)).trans ((lv_osw h2 (by decide)).trans ((lv_osw h3 (by decide)).trans ((lv_osw h4 (by decide)).trans ((lv_osw h5 (by decide)).trans rfl))))) (pc' := 58) (by decide) ?_
  refine k_iconst C (v := 0) dX4_numbersAfter_58 (by decide) (pc' := 59) rfl ?_
  exact k_reti C rfl hr dX4_numbersAfter_59
def fX6_within {μ : Type} (x0 : μ) (a0 : Int32) (a1 : Int32) (a2 : Int32) : Option (Int32 × μ) :=
  if a0 < a1 then some (0, x0) else if a2 < a0 then some (0, x0) else some (1, x0)
set_option maxRecDepth 100000 in
set_option maxHeartbeats 4000000 in
theorem qX6_within {μ : Type} (l : Launch) (Γ : kG) (K : Nat × (μ → Nat → Nat → va_E)) (x0 : μ) (a0 : Int32) (a1 : Int32) (a2 : Int32) : CT l Γ K yX6_within cX6_within 3 (some .boolean) (k_R 0) [.int a0, .int a1, .int a2] x0 (fX6_within x0 a0 a1 a2) := by
  refine k_meth (own := RX6) (by decide) rfl (Nat.le_of_ble_eq_true rfl) (fun p e R s mid args below meth c C hr => ?_)
  show Sm Γ K p l e R s mid args below meth c 3 true x0 [(0, .int a0), (1, .int a1), (2, .int a2)] [] 0 (fX6_within x0 a0 a1 a2)
  unfold fX6_within
  refine k_iload_n C 0 dX6_within_0 rfl rfl (pc' := 1) rfl ?_
  refine k_iload_n C 1 dX6_within_1 rfl rfl (pc' := 2) rfl ?_
  refine k_ic_lt C (tgt := 14) dX6_within_2 (by decide) (pc' := 5) rfl (fun h1 => ?_) (fun h1 => ?_)
  · refine k_iconst C (v := 0) dX6_within_14 (by decide) (pc' := 15) rfl ?_
    exact k_retz C rfl hr (Or.inl rfl) dX6_within_15
  · refine k_iload_n C 0 dX6_within_5 rfl rfl (pc' := 6) rfl ?_
    refine k_iload_n C 2 dX6_within_6 rfl rfl (pc' := 7) rfl ?_
    refine k_ic_gt C (tgt := 14) dX6_within_7 (by decide) (pc' := 10) rfl (fun h2 => ?_) (fun h2 => ?_)
    · refine k_iconst C (v := 0) dX6_within_14 (by decide) (pc' := 15) rfl ?_
      exact k_retz C rfl hr (Or.inl rfl) dX6_within_15
    · refine k_iconst C (v := 1) dX6_within_10 (by decide) (pc' := 11) rfl ?_
      refine k_goto C (pc' := 15) dX6_within_11 (by decide) ?_
      exact k_retz C rfl hr (Or.inr rfl) dX6_within_15
def fX6_quotient {μ : Type} (x0 : μ) (a0 : Int32) (a1 : Int32) : Option (Int32 × μ) :=
  if a1 ≤ 0 then some (0, x0) else if ¬ a1 = 0 then some (a0 / a1, x0) else none
set_option maxRecDepth 100000 in
set_option maxHeartbeats 4000000 in
theorem qX6_quotient {μ : Type} (l : Launch) (Γ : kG) (K : Nat × (μ → Nat → Nat → va_E)) (x0 : μ) (a0 : Int32) (a1 : Int32) : CT l Γ K yX6_quotient cX6_quotient 2 (some .int) (k_R 0) [.int a0, .int a1] x0 (fX6_quotient x0 a0 a1) := by
  refine k_meth (own := RX6) (by decide) rfl (Nat.le_of_ble_eq_true rfl) (fun p e R s mid args below meth c C hr => ?_)
  show Sm Γ K p l e R s mid args below meth c 2 true x0 [(0, .int a0), (1, .int a1)] [] 0 (fX6_quotient x0 a0 a1)
  unfold fX6_quotient
  refine k_iload_n C 1 dX6_quotient_0 rfl rfl (pc' := 1) rfl ?_
  refine k_if_le C (tgt := 10) dX6_quotient_1 (by decide) (pc' := 4) rfl (fun h1 => ?_) (fun h1 => ?_)
  · refine k_iconst C (v := 0) dX6_quotient_10 (by decide) (pc' := 11) rfl ?_
    exact k_reti C rfl hr dX6_quotient_11
  · refine k_iload_n C 0 dX6_quotient_4 rfl rfl (pc' := 5) rfl ?_
    refine k_iload_n C 1 dX6_quotient_5 rfl rfl (pc' := 6) rfl ?_
    refine k_idiv C dX6_quotient_6 (pc' := 7) rfl ?_
    refine k_goto C (pc' := 11) dX6_quotient_7 (by decide) ?_
    exact k_reti C rfl hr dX6_quotient_11
def fX7_in {μ : Type} (x0 : μ) (a0 : Int32) (a1 : Int32) (a2 : Int32) : Option (Int32 × μ) :=
  if a0 < a1 then some (0, x0) else if a2 < a0 then some (0, x0) else some (1, x0)
set_option maxRecDepth 100000 in
set_option maxHeartbeats 4000000 in
theorem qX7_in {μ : Type} (l : Launch) (Γ : kG) (K : Nat × (μ → Nat → Nat → va_E)) (x0 : μ) (a0 : Int32) (a1 : Int32) (a2 : Int32) : CT l Γ K yX7_in cX7_in 3 (some .boolean) (k_R 0) [.int a0, .int a1, .int a2] x0 (fX7_in x0 a0 a1 a2) := by
  refine k_meth (own := RX7) (by decide) rfl (Nat.le_of_ble_eq_true rfl) (fun p e R s mid args below meth c C hr => ?_)
  show Sm Γ K p l e R s mid args below meth c 3 true x0 [(0, .int a0), (1, .int a1), (2, .int a2)] [] 0 (fX7_in x0 a0 a1 a2)
  unfold fX7_in
  refine k_iload_n C 0 dX7_in_0 rfl rfl (pc' := 1) rfl ?_
  refine k_iload_n C 1 dX7_in_1 rfl rfl (pc' := 2) rfl ?_
  refine k_ic_lt C (tgt := 14) dX7_in_2 (by decide) (pc' := 5) rfl (fun h1 => ?_) (fun h1 => ?_)
  · refine k_iconst C (v := 0) dX7_in_14 (by decide) (pc' := 15) rfl ?_
    exact k_retz C rfl hr (Or.inl rfl) dX7_in_15
  · refine k_iload_n C 0 dX7_in_5 rfl rfl (pc' := 6) rfl ?_
    refine k_iload_n C 2 dX7_in_6 rfl rfl (pc' := 7) rfl ?_
    refine k_ic_gt C (tgt := 14) dX7_in_7 (by decide) (pc' := 10) rfl (fun h2 => ?_) (fun h2 => ?_)
    · refine k_iconst C (v := 0) dX7_in_14 (by decide) (pc' := 15) rfl ?_
      exact k_retz C rfl hr (Or.inl rfl) dX7_in_15
    · refine k_iconst C (v := 1) dX7_in_10 (by decide) (pc' := 11) rfl ?_
      refine k_goto C (pc' := 15) dX7_in_11 (by decide) ?_
      exact k_retz C rfl hr (Or.inr rfl) dX7_in_15
def fX7_product_b18 {μ : Type} (a0 : Int32) (a1 : Int32)  (x0 : μ) : Option (Int32 × μ) :=
  some ((-1), x0)
set_option maxRecDepth 100000 in
set_option maxHeartbeats 4000000 in
theorem sX7_product_b18 {μ : Type} {K : Nat × (μ → Nat → Nat → va_E)} {l : Launch} {Γ : kG}  {p : Program} {e : Env} {R : Room} {s : State} {mid : MethodId} {args : Array Value} {below : List Frame} {meth : Method} {c : Code} (C : k_C Γ p R s mid args meth c cX7_product 4 RX7 (k_R 0)) (hr : meth.sig.returnType = (some .int)) (a0 : Int32) (a1 : Int32)  (x0 : μ)   : Sm Γ K p l e R s mid args below meth c 4 true x0 [] [] 18 (fX7_product_b18 a0 a1 x0) := by
  unfold fX7_product_b18
  refine k_iconst C (v := (-1)) dX7_product_18 (by decide) (pc' := 19) rfl ?_
  refine k_goto C (pc' := 24) dX7_product_19 (by decide) ?_
  exact k_reti C rfl hr dX7_product_24
def fX7_product {μ : Type} (x0 : μ) (a0 : Int32) (a1 : Int32) : Option (Int32 × μ) :=
  k_let ((a0.toInt64) * (a1.toInt64)) fun v1 => if a0 < 0 then fX7_product_b18 a0 a1 x0 else if (lg_cmp v1 2147483647) ≤ 0 then some (v1.toInt32, x0) else fX7_product_b18 a0 a1 x0
set_option maxRecDepth 100000 in
set_option maxHeartbeats 4000000 in
theorem qX7_product {μ : Type} (l : Launch) (Γ : kG) (K : Nat × (μ → Nat → Nat → va_E)) (x0 : μ) (a0 : Int32) (a1 : Int32) : CT l Γ K yX7_product cX7_product 4 (some .int) (k_R 0) [.int a0, .int a1] x0 (fX7_product x0 a0 a1) := by
  refine k_meth (own := RX7) (by decide) rfl (Nat.le_of_ble_eq_true rfl) (fun p e R s mid args below meth c C hr => ?_)
  show Sm Γ K p l e R s mid args below meth c 4 true x0 [(0, .int a0), (1, .int a1)] [] 0 (fX7_product x0 a0 a1)
  unfold fX7_product
  refine k_iload_n C 0 dX7_product_0 rfl rfl (pc' := 1) rfl ?_
  refine k_i2l C dX7_product_1 (pc' := 2) rfl ?_
  refine k_iload_n C 1 dX7_product_2 rfl rfl (pc' := 3) rfl ?_
  refine k_i2l C dX7_product_3 (pc' := 4) rfl ?_
  refine k_lmul C dX7_product_4 (pc' := 5) rfl ?_
  refine k_topl (fun v1 => ?_)
  refine k_lstore_n C (lv' := [(2, .long v1), (0, .int a0), (1, .int a1)]) dX7_product_5 rfl (by decide) rfl (pc' := 6) rfl ?_
  refine k_iload_n C 1 dX7_product_6 rfl rfl (pc' := 7) rfl ?_
  refine k_if_lt C (tgt := 18) dX7_product_7 (by decide) (pc' := 10) rfl (fun h2 => ?_) (fun h2 => ?_)
  · refine k_sub [] rfl ?_
    exact sX7_product_b18 C hr a0 a1 x0
  · refine k_lload_n C 0 dX7_product_10 rfl rfl (pc' := 11) rfl ?_
    refine k_ldc2 C (v := 2147483647) dX7_product_11 cnX7_109 (pc' := 14) rfl ?_
    refine k_lcmp C dX7_product_14 (pc' := 15) rfl ?_
    refine k_if_le C (tgt := 22) dX7_product_15 (by decide) (pc' := 18) rfl (fun h3 => ?_) (fun h3 => ?_)
    · refine k_lload_n C 0 dX7_product_22 rfl rfl (pc' := 23) rfl ?_
      refine k_l2i C dX7_product_23 (pc' := 24) rfl ?_
      exact k_reti C rfl hr dX7_product_24
    · refine k_sub [] rfl ?_
      exact sX7_product_b18 C hr a0 a1 x0
def fX7_low_b30 {μ : Type} (a0 : Int32)  (x0 : μ) : Option (Int32 × μ) :=
  some (1, x0)
set_option maxRecDepth 100000 in
set_option maxHeartbeats 4000000 in
theorem sX7_low_b30 {μ : Type} {K : Nat × (μ → Nat → Nat → va_E)} {l : Launch} {Γ : kG}  {p : Program} {e : Env} {R : Room} {s : State} {mid : MethodId} {args : Array Value} {below : List Frame} {meth : Method} {c : Code} (C : k_C Γ p R s mid args meth c cX7_low 1 RX7 (k_R 0)) (hr : meth.sig.returnType = (some .int)) (a0 : Int32)  (x0 : μ)   : Sm Γ K p l e R s mid args below meth c 1 true x0 [] [] 30 (fX7_low_b30 a0 x0) := by
  unfold fX7_low_b30
  refine k_iconst C (v := 1) dX7_low_30 (by decide) (pc' := 31) rfl ?_
  refine k_goto C (pc' := 35) dX7_low_31 (by decide) ?_
  exact k_reti C rfl hr dX7_low_35
def fX7_low {μ : Type} (x0 : μ) (a0 : Int32) : Option (Int32 × μ) :=
  if a0 = 0 then some (10, x0) else if a0 = 4 then some (4, x0) else if a0 = 10 then fX7_low_b30 a0 x0 else if a0 = 11 then fX7_low_b30 a0 x0 else some (0, x0)
set_option maxRecDepth 100000 in
set_option maxHeartbeats 4000000 in
theorem qX7_low {μ : Type} (l : Launch) (Γ : kG) (K : Nat × (μ → Nat → Nat → va_E)) (x0 : μ) (a0 : Int32) : CT l Γ K yX7_low cX7_low 1 (some .int) (k_R 0) [.int a0] x0 (fX7_low x0 a0) := by
  refine k_meth (own := RX7) (by decide) rfl (Nat.le_of_ble_eq_true rfl) (fun p e R s mid args below meth c C hr => ?_)
  show Sm Γ K p l e R s mid args below meth c 1 true x0 [(0, .int a0)] [] 0 (fX7_low x0 a0)
  unfold fX7_low
  refine k_iload_n C 0 dX7_low_0 rfl rfl (pc' := 1) rfl ?_
  refine k_if_ne C (tgt := 9) dX7_low_1 (by decide) (pc' := 4) rfl (fun h1 => ?_) (fun h1 => ?_)
  · refine k_iload_n C 0 dX7_low_9 rfl rfl (pc' := 10) rfl ?_
    refine k_iconst C (v := 4) dX7_low_10 (by decide) (pc' := 11) rfl ?_
    refine k_ic_ne C (tgt := 18) dX7_low_11 (by decide) (pc' := 14) rfl (fun h2 => ?_) (fun h2 => ?_)
    · refine k_iload_n C 0 dX7_low_18 rfl rfl (pc' := 19) rfl ?_
      refine k_bipush C (v := 10) dX7_low_19 (by decide) (pc' := 21) rfl ?_
      refine k_ic_eq C (tgt := 30) dX7_low_21 (by decide) (pc' := 24) rfl (fun h3 => ?_) (fun h3 => ?_)
      · refine k_sub [] rfl ?_
        exact sX7_low_b30 C hr a0 x0
      · refine k_iload_n C 0 dX7_low_24 rfl rfl (pc' := 25) rfl ?_
        refine k_bipush C (v := 11) dX7_low_25 (by decide) (pc' := 27) rfl ?_
        refine k_ic_ne C (tgt := 34) dX7_low_27 (by decide) (pc' := 30) rfl (fun h4 => ?_) (fun h4 => ?_)
        · refine k_iconst C (v := 0) dX7_low_34 (by decide) (pc' := 35) rfl ?_
          exact k_reti C rfl hr dX7_low_35
        · refine k_sub [] rfl ?_
          exact sX7_low_b30 C hr a0 x0
    · refine k_iconst C (v := 4) dX7_low_14 (by decide) (pc' := 15) rfl ?_
      refine k_goto C (pc' := 35) dX7_low_15 (by decide) ?_
      exact k_reti C rfl hr dX7_low_35
  · refine k_bipush C (v := 10) dX7_low_4 (by decide) (pc' := 6) rfl ?_
    refine k_goto C (pc' := 35) dX7_low_6 (by decide) ?_
    exact k_reti C rfl hr dX7_low_35
def fX7_high {μ : Type} (x0 : μ) (a0 : Int32) : Option (Int32 × μ) :=
  if a0 = 0 then some (1000, x0) else if a0 = 1 then some (100, x0) else if a0 = 2 then some (300, x0) else if a0 = 3 then some (100, x0) else if a0 = 4 then some (100, x0) else if a0 = 5 then some (200, x0) else if a0 = 6 then some (100, x0) else if a0 = 7 then some (2000, x0) else if a0 = 8 then some (50, x0) else if a0 = 9 then some (100, x0) else if a0 = 10 then some (60, x0) else if a0 = 11 then some (100, x0) else if a0 = 12 then some (3, x0) else some (100, x0)
set_option maxRecDepth 100000 in
set_option maxHeartbeats 4000000 in
theorem qX7_high {μ : Type} (l : Launch) (Γ : kG) (K : Nat × (μ → Nat → Nat → va_E)) (x0 : μ) (a0 : Int32) : CT l Γ K yX7_high cX7_high 1 (some .int) (k_R 0) [.int a0] x0 (fX7_high x0 a0) := by
  refine k_meth (own := RX7) (by decide) rfl (Nat.le_of_ble_eq_true rfl) (fun p e R s mid args below meth c C hr => ?_)
  show Sm Γ K p l e R s mid args below meth c 1 true x0 [(0, .int a0)] [] 0 (fX7_high x0 a0)
  unfold fX7_high
  refine k_iload_n C 0 dX7_high_0 rfl rfl (pc' := 1) rfl ?_
  refine k_ite (fun h1 => ?_) (fun h1 => ?_)
  · refine k_tswIn C (67) dX7_high_1 h1 (by decide) (by decide) rfl (pc' := 68) (by decide) ?_
    refine k_sipush C (v := 1000) dX7_high_68 (by decide) (pc' := 71) rfl ?_
    exact k_reti C rfl hr dX7_high_71
  refine k_ite (fun h2 => ?_) (fun h2 => ?_)
  · refine k_tswIn C (91) dX7_high_1 h2 (by decide) (by decide) rfl (pc' := 92) (by decide) ?_
    refine k_bipush C (v := 100) dX7_high_92 (by decide) (pc' := 94) rfl ?_
    exact k_reti C rfl hr dX7_high_94
  refine k_ite (fun h3 => ?_) (fun h3 => ?_)
  · refine k_tswIn C (71) dX7_high_1 h3 (by decide) (by decide) rfl (pc' := 72) (by decide) ?_
    refine k_sipush C (v := 300) dX7_high_72 (by decide) (pc' := 75) rfl ?_
    exact k_reti C rfl hr dX7_high_75
  refine k_ite (fun h4 => ?_) (fun h4 => ?_)
  · refine k_tswIn C (91) dX7_high_1 h4 (by decide) (by decide) rfl (pc' := 92) (by decide) ?_
    refine k_bipush C (v := 100) dX7_high_92 (by decide) (pc' := 94) rfl ?_
    exact k_reti C rfl hr dX7_high_94
  refine k_ite (fun h5 => ?_) (fun h5 => ?_)
  · refine k_tswIn C (91) dX7_high_1 h5 (by decide) (by decide) rfl (pc' := 92) (by decide) ?_
    refine k_bipush C (v := 100) dX7_high_92 (by decide) (pc' := 94) rfl ?_
    exact k_reti C rfl hr dX7_high_94
  refine k_ite (fun h6 => ?_) (fun h6 => ?_)
  · refine k_tswIn C (75) dX7_high_1 h6 (by decide) (by decide) rfl (pc' := 76) (by decide) ?_
    refine k_sipush C (v := 200) dX7_high_76 (by decide) (pc' := 79) rfl ?_
    exact k_reti C rfl hr dX7_high_79
  refine k_ite (fun h7 => ?_) (fun h7 => ?_)
  · refine k_tswIn C (91) dX7_high_1 h7 (by decide) (by decide) rfl (pc' := 92) (by decide) ?_
    refine k_bipush C (v := 100) dX7_high_92 (by decide) (pc' := 94) rfl ?_
    exact k_reti C rfl hr dX7_high_94
  refine k_ite (fun h8 => ?_) (fun h8 => ?_)
  · refine k_tswIn C (79) dX7_high_1 h8 (by decide) (by decide) rfl (pc' := 80) (by decide) ?_
    refine k_sipush C (v := 2000) dX7_high_80 (by decide) (pc' := 83) rfl ?_
    exact k_reti C rfl hr dX7_high_83
  refine k_ite (fun h9 => ?_) (fun h9 => ?_)
  · refine k_tswIn C (83) dX7_high_1 h9 (by decide) (by decide) rfl (pc' := 84) (by decide) ?_
    refine k_bipush C (v := 50) dX7_high_84 (by decide) (pc' := 86) rfl ?_
    exact k_reti C rfl hr dX7_high_86
  refine k_ite (fun h10 => ?_) (fun h10 => ?_)
  · refine k_tswIn C (91) dX7_high_1 h10 (by decide) (by decide) rfl (pc' := 92) (by decide) ?_
    refine k_bipush C (v := 100) dX7_high_92 (by decide) (pc' := 94) rfl ?_
    exact k_reti C rfl hr dX7_high_94
  refine k_ite (fun h11 => ?_) (fun h11 => ?_)
  · refine k_tswIn C (86) dX7_high_1 h11 (by decide) (by decide) rfl (pc' := 87) (by decide) ?_
    refine k_bipush C (v := 60) dX7_high_87 (by decide) (pc' := 89) rfl ?_
    exact k_reti C rfl hr dX7_high_89
  refine k_ite (fun h12 => ?_) (fun h12 => ?_)
  · refine k_tswIn C (91) dX7_high_1 h12 (by decide) (by decide) rfl (pc' := 92) (by decide) ?_
    refine k_bipush C (v := 100) dX7_high_92 (by decide) (pc' := 94) rfl ?_
    exact k_reti C rfl hr dX7_high_94
  refine k_ite (fun h13 => ?_) (fun h13 => ?_)
  · refine k_tswIn C (89) dX7_high_1 h13 (by decide) (by decide) rfl (pc' := 90) (by decide) ?_
    refine k_iconst C (v := 3) dX7_high_90 (by decide) (pc' := 91) rfl ?_
    exact k_reti C rfl hr dX7_high_91
  refine k_tswOut C dX7_high_1 (by have z0 := lv_neT h1 (show (0 : Int32).toInt = 0 by decide); have z1 := lv_neT h2 (show (1 : Int32).toInt = 1 by decide); have z2 := lv_neT h3 (show (2 : Int32).toInt = 2 by decide); have z3 := lv_neT h4 (show (3 : Int32).toInt = 3 by decide); have z4 := lv_neT h5 (show (4 : Int32).toInt = 4 by decide); have z5 := lv_neT h6 (show (5 : Int32).toInt = 5 by decide); have z6 := lv_neT h7 (show (6 : Int32).toInt = 6 by decide); have z7 := lv_neT h8 (show (7 : Int32).toInt = 7 by decide); have z8 := lv_neT h9 (show (8 : Int32).toInt = 8 by decide); have z9 := lv_neT h10 (show (9 : Int32).toInt = 9 by decide); have z10 := lv_neT h11 (show (10 : Int32).toInt = 10 by decide); have z11 := lv_neT h12 (show (11 : Int32).toInt = 11 by decide); have z12 := lv_neT h13 (show (12 : Int32).toInt = 12 by decide); omega) (pc' := 92) (by decide) ?_
  refine k_bipush C (v := 100) dX7_high_92 (by decide) (pc' := 94) rfl ?_
  exact k_reti C rfl hr dX7_high_94
def fX7_numbers_b38 {μ : Type} (a0 : Int32)  (x0 : μ) : Option (Int32 × μ) :=
  some (1, x0)
set_option maxRecDepth 100000 in
set_option maxHeartbeats 4000000 in
theorem sX7_numbers_b38 {μ : Type} {K : Nat × (μ → Nat → Nat → va_E)} {l : Launch} {Γ : kG}  {p : Program} {e : Env} {R : Room} {s : State} {mid : MethodId} {args : Array Value} {below : List Frame} {meth : Method} {c : Code} (C : k_C Γ p R s mid args meth c cX7_numbers 1 RX7 (k_R 0)) (hr : meth.sig.returnType = (some .int)) (a0 : Int32)  (x0 : μ)   : Sm Γ K p l e R s mid args below meth c 1 true x0 [] [] 38 (fX7_numbers_b38 a0 x0) := by
  unfold fX7_numbers_b38
  refine k_iconst C (v := 1) dX7_numbers_38 (by decide) (pc' := 39) rfl ?_
  refine k_goto C (pc' := 43) dX7_numbers_39 (by decide) ?_
  exact k_reti C rfl hr dX7_numbers_43
def fX7_numbers {μ : Type} (x0 : μ) (a0 : Int32) : Option (Int32 × μ) :=
  if a0 = 98 then some (3, x0) else if a0 = 112 then some (2, x0) else if a0 = 102 then fX7_numbers_b38 a0 x0 else if a0 = 114 then fX7_numbers_b38 a0 x0 else if a0 = 103 then fX7_numbers_b38 a0 x0 else some (0, x0)
set_option maxRecDepth 100000 in
set_option maxHeartbeats 4000000 in
theorem qX7_numbers {μ : Type} (l : Launch) (Γ : kG) (K : Nat × (μ → Nat → Nat → va_E)) (x0 : μ) (a0 : Int32) : CT l Γ K yX7_numbers cX7_numbers 1 (some .int) (k_R 0) [.int a0] x0 (fX7_numbers x0 a0) := by
  refine k_meth (own := RX7) (by decide) rfl (Nat.le_of_ble_eq_true rfl) (fun p e R s mid args below meth c C hr => ?_)
  show Sm Γ K p l e R s mid args below meth c 1 true x0 [(0, .int a0)] [] 0 (fX7_numbers x0 a0)
  unfold fX7_numbers
  refine k_iload_n C 0 dX7_numbers_0 rfl rfl (pc' := 1) rfl ?_
  refine k_bipush C (v := 98) dX7_numbers_1 (by decide) (pc' := 3) rfl ?_
  refine k_ic_ne C (tgt := 10) dX7_numbers_3 (by decide) (pc' := 6) rfl (fun h1 => ?_) (fun h1 => ?_)
  · refine k_iload_n C 0 dX7_numbers_10 rfl rfl (pc' := 11) rfl ?_
    refine k_bipush C (v := 112) dX7_numbers_11 (by decide) (pc' := 13) rfl ?_
    refine k_ic_ne C (tgt := 20) dX7_numbers_13 (by decide) (pc' := 16) rfl (fun h2 => ?_) (fun h2 => ?_)
    · refine k_iload_n C 0 dX7_numbers_20 rfl rfl (pc' := 21) rfl ?_
      refine k_bipush C (v := 102) dX7_numbers_21 (by decide) (pc' := 23) rfl ?_
      refine k_ic_eq C (tgt := 38) dX7_numbers_23 (by decide) (pc' := 26) rfl (fun h3 => ?_) (fun h3 => ?_)
      · refine k_sub [] rfl ?_
        exact sX7_numbers_b38 C hr a0 x0
      · refine k_iload_n C 0 dX7_numbers_26 rfl rfl (pc' := 27) rfl ?_
        refine k_bipush C (v := 114) dX7_numbers_27 (by decide) (pc' := 29) rfl ?_
        refine k_ic_eq C (tgt := 38) dX7_numbers_29 (by decide) (pc' := 32) rfl (fun h4 => ?_) (fun h4 => ?_)
        · refine k_sub [] rfl ?_
          exact sX7_numbers_b38 C hr a0 x0
        · refine k_iload_n C 0 dX7_numbers_32 rfl rfl (pc' := 33) rfl ?_
          refine k_bipush C (v := 103) dX7_numbers_33 (by decide) (pc' := 35) rfl ?_
          refine k_ic_ne C (tgt := 42) dX7_numbers_35 (by decide) (pc' := 38) rfl (fun h5 => ?_) (fun h5 => ?_)
          · refine k_iconst C (v := 0) dX7_numbers_42 (by decide) (pc' := 43) rfl ?_
            exact k_reti C rfl hr dX7_numbers_43
          · refine k_sub [] rfl ?_
            exact sX7_numbers_b38 C hr a0 x0
    · refine k_iconst C (v := 2) dX7_numbers_16 (by decide) (pc' := 17) rfl ?_
      refine k_goto C (pc' := 43) dX7_numbers_17 (by decide) ?_
      exact k_reti C rfl hr dX7_numbers_43
  · refine k_iconst C (v := 3) dX7_numbers_6 (by decide) (pc' := 7) rfl ?_
    refine k_goto C (pc' := 43) dX7_numbers_7 (by decide) ?_
    exact k_reti C rfl hr dX7_numbers_43
def fX0_takeFrom (M0 : kM2) (i0 : Nat) (j0 : Nat) (i1 : Nat) (j1 : Nat) : Option (Int32 × kM2) :=
  k_let (mw M0 i0 j0 0 (M0 i1 j1 0)) fun M1 => k_let (mw M1 i0 j0 1 (M1 i1 j1 1)) fun M2 => some (0, M2)
set_option maxRecDepth 100000 in
set_option maxHeartbeats 4000000 in
theorem qX0_takeFrom (l : Launch) (Γ : kG) (hL : k_Lay Γ 314) (M0 : kM2) (i0 : Nat) (j0 : Nat) (i1 : Nat) (j1 : Nat) (hi0 : i0 < 7) (hj0 : 12 ≤ j0 ∧ j0 < 20) (hi1 : i1 < 7) (hj1 : 12 ≤ j1 ∧ j1 < 20) : CT l Γ (K2 Γ) yX0_takeFrom cX0_takeFrom 2 none (k_R 0) [.ref (Γ.1 i0 j0), .ref (Γ.1 i1 j1)] M0 (fX0_takeFrom M0 i0 j0 i1 j1) := by
  refine k_meth (own := RX0) (by decide) rfl (Nat.le_of_ble_eq_true rfl) (fun p e R s mid args below meth c C hr => ?_)
  show Sm Γ (K2 Γ) p l e R s mid args below meth c 2 false M0 [(0, .ref (Γ.1 i0 j0)), (1, .ref (Γ.1 i1 j1))] [] 0 (fX0_takeFrom M0 i0 j0 i1 j1)
  unfold fX0_takeFrom
  refine k_aload_n C 0 dX0_takeFrom_0 rfl rfl (pc' := 1) rfl ?_
  refine k_aload_n C 1 dX0_takeFrom_1 rfl rfl (pc' := 2) rfl ?_
  refine k_getf C 0 (c2 Γ M0 i1 j1 (e_farmer Γ hi1 hj1 (M0 i1 j1))) (v_i hi1 (h_farmer hj1)) flX0_7 (v := .int (M0 i1 j1 0)) rfl dX0_takeFrom_2 (pc' := 5) rfl ?_
  refine k_putf C hL.k2 0 (c2 Γ M0 i0 j0 (e_farmer Γ hi0 hj0 (M0 i0 j0))) (v_i hi0 (h_farmer hj0)) flX0_7 fpX0_0 (Nat.le_of_ble_eq_true rfl) (s2 Γ M0 i0 j0 0 (M0 i1 j1 0) ((e_farmer Γ hi0 hj0 _).trans (congrArg (fun z => Sum.inr (0, z)) (f_farmer (M0 i0 j0) (M0 i1 j1 0) 0 (by decide))))) dX0_takeFrom_5 (pc' := 8) rfl (fun M1 => ?_)
  refine k_aload_n C 0 dX0_takeFrom_8 rfl rfl (pc' := 9) rfl ?_
  refine k_aload_n C 1 dX0_takeFrom_9 rfl rfl (pc' := 10) rfl ?_
  refine k_getf C 1 (c2 Γ M1 i1 j1 (e_farmer Γ hi1 hj1 (M1 i1 j1))) (v_i hi1 (h_farmer hj1)) flX0_13 (v := .int (M1 i1 j1 1)) rfl dX0_takeFrom_10 (pc' := 13) rfl ?_
  refine k_putf C hL.k2 1 (c2 Γ M1 i0 j0 (e_farmer Γ hi0 hj0 (M1 i0 j0))) (v_i hi0 (h_farmer hj0)) flX0_13 fpX0_1 (Nat.le_of_ble_eq_true rfl) (s2 Γ M1 i0 j0 1 (M1 i1 j1 1) ((e_farmer Γ hi0 hj0 _).trans (congrArg (fun z => Sum.inr (0, z)) (f_farmer (M1 i0 j0) (M1 i1 j1 1) 1 (by decide))))) dX0_takeFrom_13 (pc' := 16) rfl (fun M2 => ?_)
  exact k_retv C rfl hr dX0_takeFrom_16
def fX2_takeFrom (M0 : kM2) (i0 : Nat) (j0 : Nat) (i1 : Nat) (j1 : Nat) : Option (Int32 × kM2) :=
  k_let (mw M0 i0 j0 0 (M0 i1 j1 0)) fun M1 => k_let (mw M1 i0 j0 1 (M1 i1 j1 1)) fun M2 => k_let (mw M2 i0 j0 2 (M2 i1 j1 2)) fun M3 => some (0, M3)
set_option maxRecDepth 100000 in
set_option maxHeartbeats 4000000 in
theorem qX2_takeFrom (l : Launch) (Γ : kG) (hL : k_Lay Γ 314) (M0 : kM2) (i0 : Nat) (j0 : Nat) (i1 : Nat) (j1 : Nat) (hi0 : i0 < 7) (hj0 : 6 ≤ j0 ∧ j0 < 12) (hi1 : i1 < 7) (hj1 : 6 ≤ j1 ∧ j1 < 12) : CT l Γ (K2 Γ) yX2_takeFrom cX2_takeFrom 2 none (k_R 0) [.ref (Γ.1 i0 j0), .ref (Γ.1 i1 j1)] M0 (fX2_takeFrom M0 i0 j0 i1 j1) := by
  refine k_meth (own := RX2) (by decide) rfl (Nat.le_of_ble_eq_true rfl) (fun p e R s mid args below meth c C hr => ?_)
  show Sm Γ (K2 Γ) p l e R s mid args below meth c 2 false M0 [(0, .ref (Γ.1 i0 j0)), (1, .ref (Γ.1 i1 j1))] [] 0 (fX2_takeFrom M0 i0 j0 i1 j1)
  unfold fX2_takeFrom
  refine k_aload_n C 0 dX2_takeFrom_0 rfl rfl (pc' := 1) rfl ?_
  refine k_aload_n C 1 dX2_takeFrom_1 rfl rfl (pc' := 2) rfl ?_
  refine k_getf C 0 (c2 Γ M0 i1 j1 (e_kind Γ hi1 hj1 (M0 i1 j1))) (v_i hi1 (h_kind hj1)) flX2_7 (v := .int (M0 i1 j1 0)) rfl dX2_takeFrom_2 (pc' := 5) rfl ?_
  refine k_putf C hL.k2 0 (c2 Γ M0 i0 j0 (e_kind Γ hi0 hj0 (M0 i0 j0))) (v_i hi0 (h_kind hj0)) flX2_7 fpX2_0 (Nat.le_of_ble_eq_true rfl) (s2 Γ M0 i0 j0 0 (M0 i1 j1 0) ((e_kind Γ hi0 hj0 _).trans (congrArg (fun z => Sum.inr (2, z)) (f_kind (M0 i0 j0) (M0 i1 j1 0) 0 (by decide))))) dX2_takeFrom_5 (pc' := 8) rfl (fun M1 => ?_)
  refine k_aload_n C 0 dX2_takeFrom_8 rfl rfl (pc' := 9) rfl ?_
  refine k_aload_n C 1 dX2_takeFrom_9 rfl rfl (pc' := 10) rfl ?_
  refine k_getf C 1 (c2 Γ M1 i1 j1 (e_kind Γ hi1 hj1 (M1 i1 j1))) (v_i hi1 (h_kind hj1)) flX2_13 (v := .int (M1 i1 j1 1)) rfl dX2_takeFrom_10 (pc' := 13) rfl ?_
  refine k_putf C hL.k2 1 (c2 Γ M1 i0 j0 (e_kind Γ hi0 hj0 (M1 i0 j0))) (v_i hi0 (h_kind hj0)) flX2_13 fpX2_1 (Nat.le_of_ble_eq_true rfl) (s2 Γ M1 i0 j0 1 (M1 i1 j1 1) ((e_kind Γ hi0 hj0 _).trans (congrArg (fun z => Sum.inr (2, z)) (f_kind (M1 i0 j0) (M1 i1 j1 1) 1 (by decide))))) dX2_takeFrom_13 (pc' := 16) rfl (fun M2 => ?_)
  refine k_aload_n C 0 dX2_takeFrom_16 rfl rfl (pc' := 17) rfl ?_
  refine k_aload_n C 1 dX2_takeFrom_17 rfl rfl (pc' := 18) rfl ?_
  refine k_getf C 2 (c2 Γ M2 i1 j1 (e_kind Γ hi1 hj1 (M2 i1 j1))) (v_i hi1 (h_kind hj1)) flX2_16 (v := .int (M2 i1 j1 2)) rfl dX2_takeFrom_18 (pc' := 21) rfl ?_
  refine k_putf C hL.k2 2 (c2 Γ M2 i0 j0 (e_kind Γ hi0 hj0 (M2 i0 j0))) (v_i hi0 (h_kind hj0)) flX2_16 fpX2_2 (Nat.le_of_ble_eq_true rfl) (s2 Γ M2 i0 j0 2 (M2 i1 j1 2) ((e_kind Γ hi0 hj0 _).trans (congrArg (fun z => Sum.inr (2, z)) (f_kind (M2 i0 j0) (M2 i1 j1 2) 2 (by decide))))) dX2_takeFrom_21 (pc' := 24) rfl (fun M3 => ?_)
  exact k_retv C rfl hr dX2_takeFrom_24
def fX5_takeFrom (M0 : kM2) (i0 : Nat) (j0 : Nat) (i1 : Nat) (j1 : Nat) : Option (Int32 × kM2) :=
  k_let (mw M0 i0 j0 0 (M0 i1 j1 0)) fun M1 => k_let (mw M1 i0 j0 1 (M1 i1 j1 1)) fun M2 => k_let (mw M2 i0 j0 2 (M2 i1 j1 2)) fun M3 => k_let (mw M3 i0 j0 3 (M3 i1 j1 3)) fun M4 => k_let (mw M4 i0 j0 4 (M4 i1 j1 4)) fun M5 => k_let (mw M5 i0 j0 5 (M5 i1 j1 5)) fun M6 => k_let (mw M6 i0 j0 6 (M6 i1 j1 6)) fun M7 => k_let (mw M7 i0 j0 7 (M7 i1 j1 7)) fun M8 => k_let (mw M8 i0 j0 8 (M8 i1 j1 8)) fun M9 => k_let (mw M9 i0 j0 9 (M9 i1 j1 9)) fun M10 => k_let (mw M10 i0 j0 10 (M10 i1 j1 10)) fun M11 => k_let (mw M11 i0 j0 11 (M11 i1 j1 11)) fun M12 => k_let (mw M12 i0 j0 12 (M12 i1 j1 12)) fun M13 => k_let (mw M13 i0 j0 13 (M13 i1 j1 13)) fun M14 => k_let (mw M14 i0 j0 14 (M14 i1 j1 14)) fun M15 => k_let (mw M15 i0 j0 15 (M15 i1 j1 15)) fun M16 => k_let (mw M16 i0 j0 16 (M16 i1 j1 16)) fun M17 => some (0, M17)
set_option maxRecDepth 100000 in
set_option maxHeartbeats 4000000 in
theorem qX5_takeFrom (l : Launch) (Γ : kG) (hL : k_Lay Γ 314) (M0 : kM2) (i0 : Nat) (j0 : Nat) (i1 : Nat) (j1 : Nat) (hi0 : i0 < 7) (hj0 : 20 ≤ j0 ∧ j0 < 44) (hi1 : i1 < 7) (hj1 : 20 ≤ j1 ∧ j1 < 44) : CT l Γ (K2 Γ) yX5_takeFrom cX5_takeFrom 2 none (k_R 0) [.ref (Γ.1 i0 j0), .ref (Γ.1 i1 j1)] M0 (fX5_takeFrom M0 i0 j0 i1 j1) := by
  refine k_meth (own := RX5) (by decide) rfl (Nat.le_of_ble_eq_true rfl) (fun p e R s mid args below meth c C hr => ?_)
  show Sm Γ (K2 Γ) p l e R s mid args below meth c 2 false M0 [(0, .ref (Γ.1 i0 j0)), (1, .ref (Γ.1 i1 j1))] [] 0 (fX5_takeFrom M0 i0 j0 i1 j1)
  unfold fX5_takeFrom
  refine k_aload_n C 0 dX5_takeFrom_0 rfl rfl (pc' := 1) rfl ?_
  refine k_aload_n C 1 dX5_takeFrom_1 rfl rfl (pc' := 2) rfl ?_
  refine k_getf C 0 (c2 Γ M0 i1 j1 (e_sack Γ hi1 hj1 (M0 i1 j1))) (v_i hi1 (h_sack hj1)) flX5_9 (v := .int (M0 i1 j1 0)) rfl dX5_takeFrom_2 (pc' := 5) rfl ?_
  refine k_putf C hL.k2 0 (c2 Γ M0 i0 j0 (e_sack Γ hi0 hj0 (M0 i0 j0))) (v_i hi0 (h_sack hj0)) flX5_9 fpX5_0 (Nat.le_of_ble_eq_true rfl) (s2 Γ M0 i0 j0 0 (M0 i1 j1 0) ((e_sack Γ hi0 hj0 _).trans (congrArg (fun z => Sum.inr (5, z)) (f_sack (M0 i0 j0) (M0 i1 j1 0) 0 (by decide))))) dX5_takeFrom_5 (pc' := 8) rfl (fun M1 => ?_)
  refine k_aload_n C 0 dX5_takeFrom_8 rfl rfl (pc' := 9) rfl ?_
  refine k_aload_n C 1 dX5_takeFrom_9 rfl rfl (pc' := 10) rfl ?_
  refine k_getf C 1 (c2 Γ M1 i1 j1 (e_sack Γ hi1 hj1 (M1 i1 j1))) (v_i hi1 (h_sack hj1)) flX5_15 (v := .int (M1 i1 j1 1)) rfl dX5_takeFrom_10 (pc' := 13) rfl ?_
  refine k_putf C hL.k2 1 (c2 Γ M1 i0 j0 (e_sack Γ hi0 hj0 (M1 i0 j0))) (v_i hi0 (h_sack hj0)) flX5_15 fpX5_1 (Nat.le_of_ble_eq_true rfl) (s2 Γ M1 i0 j0 1 (M1 i1 j1 1) ((e_sack Γ hi0 hj0 _).trans (congrArg (fun z => Sum.inr (5, z)) (f_sack (M1 i0 j0) (M1 i1 j1 1) 1 (by decide))))) dX5_takeFrom_13 (pc' := 16) rfl (fun M2 => ?_)
  refine k_aload_n C 0 dX5_takeFrom_16 rfl rfl (pc' := 17) rfl ?_
  refine k_aload_n C 1 dX5_takeFrom_17 rfl rfl (pc' := 18) rfl ?_
  refine k_getf C 2 (c2 Γ M2 i1 j1 (e_sack Γ hi1 hj1 (M2 i1 j1))) (v_i hi1 (h_sack hj1)) flX5_18 (v := .int (M2 i1 j1 2)) rfl dX5_takeFrom_18 (pc' := 21) rfl ?_
  refine k_putf C hL.k2 2 (c2 Γ M2 i0 j0 (e_sack Γ hi0 hj0 (M2 i0 j0))) (v_i hi0 (h_sack hj0)) flX5_18 fpX5_2 (Nat.le_of_ble_eq_true rfl) (s2 Γ M2 i0 j0 2 (M2 i1 j1 2) ((e_sack Γ hi0 hj0 _).trans (congrArg (fun z => Sum.inr (5, z)) (f_sack (M2 i0 j0) (M2 i1 j1 2) 2 (by decide))))) dX5_takeFrom_21 (pc' := 24) rfl (fun M3 => ?_)
  refine k_aload_n C 0 dX5_takeFrom_24 rfl rfl (pc' := 25) rfl ?_
  refine k_aload_n C 1 dX5_takeFrom_25 rfl rfl (pc' := 26) rfl ?_
  refine k_getf C 3 (c2 Γ M3 i1 j1 (e_sack Γ hi1 hj1 (M3 i1 j1))) (v_i hi1 (h_sack hj1)) flX5_21 (v := .int (M3 i1 j1 3)) rfl dX5_takeFrom_26 (pc' := 29) rfl ?_
  refine k_putf C hL.k2 3 (c2 Γ M3 i0 j0 (e_sack Γ hi0 hj0 (M3 i0 j0))) (v_i hi0 (h_sack hj0)) flX5_21 fpX5_3 (Nat.le_of_ble_eq_true rfl) (s2 Γ M3 i0 j0 3 (M3 i1 j1 3) ((e_sack Γ hi0 hj0 _).trans (congrArg (fun z => Sum.inr (5, z)) (f_sack (M3 i0 j0) (M3 i1 j1 3) 3 (by decide))))) dX5_takeFrom_29 (pc' := 32) rfl (fun M4 => ?_)
  refine k_aload_n C 0 dX5_takeFrom_32 rfl rfl (pc' := 33) rfl ?_
  refine k_aload_n C 1 dX5_takeFrom_33 rfl rfl (pc' := 34) rfl ?_
  refine k_getf C 4 (c2 Γ M4 i1 j1 (e_sack Γ hi1 hj1 (M4 i1 j1))) (v_i hi1 (h_sack hj1)) flX5_24 (v := .int (M4 i1 j1 4)) rfl dX5_takeFrom_34 (pc' := 37) rfl ?_
  refine k_putf C hL.k2 4 (c2 Γ M4 i0 j0 (e_sack Γ hi0 hj0 (M4 i0 j0))) (v_i hi0 (h_sack hj0)) flX5_24 fpX5_4 (Nat.le_of_ble_eq_true rfl) (s2 Γ M4 i0 j0 4 (M4 i1 j1 4) ((e_sack Γ hi0 hj0 _).trans (congrArg (fun z => Sum.inr (5, z)) (f_sack (M4 i0 j0) (M4 i1 j1 4) 4 (by decide))))) dX5_takeFrom_37 (pc' := 40) rfl (fun M5 => ?_)
  refine k_aload_n C 0 dX5_takeFrom_40 rfl rfl (pc' := 41) rfl ?_
  refine k_aload_n C 1 dX5_takeFrom_41 rfl rfl (pc' := 42) rfl ?_
  refine k_getf C 5 (c2 Γ M5 i1 j1 (e_sack Γ hi1 hj1 (M5 i1 j1))) (v_i hi1 (h_sack hj1)) flX5_27 (v := .int (M5 i1 j1 5)) rfl dX5_takeFrom_42 (pc' := 45) rfl ?_
  refine k_putf C hL.k2 5 (c2 Γ M5 i0 j0 (e_sack Γ hi0 hj0 (M5 i0 j0))) (v_i hi0 (h_sack hj0)) flX5_27 fpX5_5 (Nat.le_of_ble_eq_true rfl) (s2 Γ M5 i0 j0 5 (M5 i1 j1 5) ((e_sack Γ hi0 hj0 _).trans (congrArg (fun z => Sum.inr (5, z)) (f_sack (M5 i0 j0) (M5 i1 j1 5) 5 (by decide))))) dX5_takeFrom_45 (pc' := 48) rfl (fun M6 => ?_)
  refine k_aload_n C 0 dX5_takeFrom_48 rfl rfl (pc' := 49) rfl ?_
  refine k_aload_n C 1 dX5_takeFrom_49 rfl rfl (pc' := 50) rfl ?_
  refine k_getf C 6 (c2 Γ M6 i1 j1 (e_sack Γ hi1 hj1 (M6 i1 j1))) (v_i hi1 (h_sack hj1)) flX5_30 (v := .int (M6 i1 j1 6)) rfl dX5_takeFrom_50 (pc' := 53) rfl ?_
  refine k_putf C hL.k2 6 (c2 Γ M6 i0 j0 (e_sack Γ hi0 hj0 (M6 i0 j0))) (v_i hi0 (h_sack hj0)) flX5_30 fpX5_6 (Nat.le_of_ble_eq_true rfl) (s2 Γ M6 i0 j0 6 (M6 i1 j1 6) ((e_sack Γ hi0 hj0 _).trans (congrArg (fun z => Sum.inr (5, z)) (f_sack (M6 i0 j0) (M6 i1 j1 6) 6 (by decide))))) dX5_takeFrom_53 (pc' := 56) rfl (fun M7 => ?_)
  refine k_aload_n C 0 dX5_takeFrom_56 rfl rfl (pc' := 57) rfl ?_
  refine k_aload_n C 1 dX5_takeFrom_57 rfl rfl (pc' := 58) rfl ?_
  refine k_getf C 7 (c2 Γ M7 i1 j1 (e_sack Γ hi1 hj1 (M7 i1 j1))) (v_i hi1 (h_sack hj1)) flX5_33 (v := .int (M7 i1 j1 7)) rfl dX5_takeFrom_58 (pc' := 61) rfl ?_
  refine k_putf C hL.k2 7 (c2 Γ M7 i0 j0 (e_sack Γ hi0 hj0 (M7 i0 j0))) (v_i hi0 (h_sack hj0)) flX5_33 fpX5_7 (Nat.le_of_ble_eq_true rfl) (s2 Γ M7 i0 j0 7 (M7 i1 j1 7) ((e_sack Γ hi0 hj0 _).trans (congrArg (fun z => Sum.inr (5, z)) (f_sack (M7 i0 j0) (M7 i1 j1 7) 7 (by decide))))) dX5_takeFrom_61 (pc' := 64) rfl (fun M8 => ?_)
  refine k_aload_n C 0 dX5_takeFrom_64 rfl rfl (pc' := 65) rfl ?_
  refine k_aload_n C 1 dX5_takeFrom_65 rfl rfl (pc' := 66) rfl ?_
  refine k_getf C 8 (c2 Γ M8 i1 j1 (e_sack Γ hi1 hj1 (M8 i1 j1))) (v_i hi1 (h_sack hj1)) flX5_36 (v := .int (M8 i1 j1 8)) rfl dX5_takeFrom_66 (pc' := 69) rfl ?_
  refine k_putf C hL.k2 8 (c2 Γ M8 i0 j0 (e_sack Γ hi0 hj0 (M8 i0 j0))) (v_i hi0 (h_sack hj0)) flX5_36 fpX5_8 (Nat.le_of_ble_eq_true rfl) (s2 Γ M8 i0 j0 8 (M8 i1 j1 8) ((e_sack Γ hi0 hj0 _).trans (congrArg (fun z => Sum.inr (5, z)) (f_sack (M8 i0 j0) (M8 i1 j1 8) 8 (by decide))))) dX5_takeFrom_69 (pc' := 72) rfl (fun M9 => ?_)
  refine k_aload_n C 0 dX5_takeFrom_72 rfl rfl (pc' := 73) rfl ?_
  refine k_aload_n C 1 dX5_takeFrom_73 rfl rfl (pc' := 74) rfl ?_
  refine k_getf C 9 (c2 Γ M9 i1 j1 (e_sack Γ hi1 hj1 (M9 i1 j1))) (v_i hi1 (h_sack hj1)) flX5_39 (v := .int (M9 i1 j1 9)) rfl dX5_takeFrom_74 (pc' := 77) rfl ?_
  refine k_putf C hL.k2 9 (c2 Γ M9 i0 j0 (e_sack Γ hi0 hj0 (M9 i0 j0))) (v_i hi0 (h_sack hj0)) flX5_39 fpX5_9 (Nat.le_of_ble_eq_true rfl) (s2 Γ M9 i0 j0 9 (M9 i1 j1 9) ((e_sack Γ hi0 hj0 _).trans (congrArg (fun z => Sum.inr (5, z)) (f_sack (M9 i0 j0) (M9 i1 j1 9) 9 (by decide))))) dX5_takeFrom_77 (pc' := 80) rfl (fun M10 => ?_)
  refine k_aload_n C 0 dX5_takeFrom_80 rfl rfl (pc' := 81) rfl ?_
  refine k_aload_n C 1 dX5_takeFrom_81 rfl rfl (pc' := 82) rfl ?_
  refine k_getf C 10 (c2 Γ M10 i1 j1 (e_sack Γ hi1 hj1 (M10 i1 j1))) (v_i hi1 (h_sack hj1)) flX5_42 (v := .int (M10 i1 j1 10)) rfl dX5_takeFrom_82 (pc' := 85) rfl ?_
  refine k_putf C hL.k2 10 (c2 Γ M10 i0 j0 (e_sack Γ hi0 hj0 (M10 i0 j0))) (v_i hi0 (h_sack hj0)) flX5_42 fpX5_10 (Nat.le_of_ble_eq_true rfl) (s2 Γ M10 i0 j0 10 (M10 i1 j1 10) ((e_sack Γ hi0 hj0 _).trans (congrArg (fun z => Sum.inr (5, z)) (f_sack (M10 i0 j0) (M10 i1 j1 10) 10 (by decide))))) dX5_takeFrom_85 (pc' := 88) rfl (fun M11 => ?_)
  refine k_aload_n C 0 dX5_takeFrom_88 rfl rfl (pc' := 89) rfl ?_
  refine k_aload_n C 1 dX5_takeFrom_89 rfl rfl (pc' := 90) rfl ?_
  refine k_getf C 11 (c2 Γ M11 i1 j1 (e_sack Γ hi1 hj1 (M11 i1 j1))) (v_i hi1 (h_sack hj1)) flX5_45 (v := .int (M11 i1 j1 11)) rfl dX5_takeFrom_90 (pc' := 93) rfl ?_
  refine k_putf C hL.k2 11 (c2 Γ M11 i0 j0 (e_sack Γ hi0 hj0 (M11 i0 j0))) (v_i hi0 (h_sack hj0)) flX5_45 fpX5_11 (Nat.le_of_ble_eq_true rfl) (s2 Γ M11 i0 j0 11 (M11 i1 j1 11) ((e_sack Γ hi0 hj0 _).trans (congrArg (fun z => Sum.inr (5, z)) (f_sack (M11 i0 j0) (M11 i1 j1 11) 11 (by decide))))) dX5_takeFrom_93 (pc' := 96) rfl (fun M12 => ?_)
  refine k_aload_n C 0 dX5_takeFrom_96 rfl rfl (pc' := 97) rfl ?_
  refine k_aload_n C 1 dX5_takeFrom_97 rfl rfl (pc' := 98) rfl ?_
  refine k_getf C 12 (c2 Γ M12 i1 j1 (e_sack Γ hi1 hj1 (M12 i1 j1))) (v_i hi1 (h_sack hj1)) flX5_48 (v := .int (M12 i1 j1 12)) rfl dX5_takeFrom_98 (pc' := 101) rfl ?_
  refine k_putf C hL.k2 12 (c2 Γ M12 i0 j0 (e_sack Γ hi0 hj0 (M12 i0 j0))) (v_i hi0 (h_sack hj0)) flX5_48 fpX5_12 (Nat.le_of_ble_eq_true rfl) (s2 Γ M12 i0 j0 12 (M12 i1 j1 12) ((e_sack Γ hi0 hj0 _).trans (congrArg (fun z => Sum.inr (5, z)) (f_sack (M12 i0 j0) (M12 i1 j1 12) 12 (by decide))))) dX5_takeFrom_101 (pc' := 104) rfl (fun M13 => ?_)
  refine k_aload_n C 0 dX5_takeFrom_104 rfl rfl (pc' := 105) rfl ?_
  refine k_aload_n C 1 dX5_takeFrom_105 rfl rfl (pc' := 106) rfl ?_
  refine k_getf C 13 (c2 Γ M13 i1 j1 (e_sack Γ hi1 hj1 (M13 i1 j1))) (v_i hi1 (h_sack hj1)) flX5_51 (v := .int (M13 i1 j1 13)) rfl dX5_takeFrom_106 (pc' := 109) rfl ?_
  refine k_putf C hL.k2 13 (c2 Γ M13 i0 j0 (e_sack Γ hi0 hj0 (M13 i0 j0))) (v_i hi0 (h_sack hj0)) flX5_51 fpX5_13 (Nat.le_of_ble_eq_true rfl) (s2 Γ M13 i0 j0 13 (M13 i1 j1 13) ((e_sack Γ hi0 hj0 _).trans (congrArg (fun z => Sum.inr (5, z)) (f_sack (M13 i0 j0) (M13 i1 j1 13) 13 (by decide))))) dX5_takeFrom_109 (pc' := 112) rfl (fun M14 => ?_)
  refine k_aload_n C 0 dX5_takeFrom_112 rfl rfl (pc' := 113) rfl ?_
  refine k_aload_n C 1 dX5_takeFrom_113 rfl rfl (pc' := 114) rfl ?_
  refine k_getf C 14 (c2 Γ M14 i1 j1 (e_sack Γ hi1 hj1 (M14 i1 j1))) (v_i hi1 (h_sack hj1)) flX5_54 (v := .int (M14 i1 j1 14)) rfl dX5_takeFrom_114 (pc' := 117) rfl ?_
  refine k_putf C hL.k2 14 (c2 Γ M14 i0 j0 (e_sack Γ hi0 hj0 (M14 i0 j0))) (v_i hi0 (h_sack hj0)) flX5_54 fpX5_14 (Nat.le_of_ble_eq_true rfl) (s2 Γ M14 i0 j0 14 (M14 i1 j1 14) ((e_sack Γ hi0 hj0 _).trans (congrArg (fun z => Sum.inr (5, z)) (f_sack (M14 i0 j0) (M14 i1 j1 14) 14 (by decide))))) dX5_takeFrom_117 (pc' := 120) rfl (fun M15 => ?_)
  refine k_aload_n C 0 dX5_takeFrom_120 rfl rfl (pc' := 121) rfl ?_
  refine k_aload_n C 1 dX5_takeFrom_121 rfl rfl (pc' := 122) rfl ?_
  refine k_getf C 15 (c2 Γ M15 i1 j1 (e_sack Γ hi1 hj1 (M15 i1 j1))) (v_i hi1 (h_sack hj1)) flX5_57 (v := .int (M15 i1 j1 15)) rfl dX5_takeFrom_122 (pc' := 125) rfl ?_
  refine k_putf C hL.k2 15 (c2 Γ M15 i0 j0 (e_sack Γ hi0 hj0 (M15 i0 j0))) (v_i hi0 (h_sack hj0)) flX5_57 fpX5_15 (Nat.le_of_ble_eq_true rfl) (s2 Γ M15 i0 j0 15 (M15 i1 j1 15) ((e_sack Γ hi0 hj0 _).trans (congrArg (fun z => Sum.inr (5, z)) (f_sack (M15 i0 j0) (M15 i1 j1 15) 15 (by decide))))) dX5_takeFrom_125 (pc' := 128) rfl (fun M16 => ?_)
  refine k_aload_n C 0 dX5_takeFrom_128 rfl rfl (pc' := 129) rfl ?_
  refine k_aload_n C 1 dX5_takeFrom_129 rfl rfl (pc' := 130) rfl ?_
  refine k_getf C 16 (c2 Γ M16 i1 j1 (e_sack Γ hi1 hj1 (M16 i1 j1))) (v_i hi1 (h_sack hj1)) flX5_60 (v := .int (M16 i1 j1 16)) rfl dX5_takeFrom_130 (pc' := 133) rfl ?_
  refine k_putf C hL.k2 16 (c2 Γ M16 i0 j0 (e_sack Γ hi0 hj0 (M16 i0 j0))) (v_i hi0 (h_sack hj0)) flX5_60 fpX5_16 (Nat.le_of_ble_eq_true rfl) (s2 Γ M16 i0 j0 16 (M16 i1 j1 16) ((e_sack Γ hi0 hj0 _).trans (congrArg (fun z => Sum.inr (5, z)) (f_sack (M16 i0 j0) (M16 i1 j1 16) 16 (by decide))))) dX5_takeFrom_133 (pc' := 136) rfl (fun M17 => ?_)
  exact k_retv C rfl hr dX5_takeFrom_136
def fX5_endPledge (m0 : kM1) (j0 : Nat) : Option (Int32 × kM1) :=
  k_let (mu m0 j0 11 0) fun m1 => k_let (mu m1 j0 12 0) fun m2 => k_let (mu m2 j0 13 0) fun m3 => k_let (mu m3 j0 14 0) fun m4 => some (0, m4)
set_option maxRecDepth 100000 in
set_option maxHeartbeats 4000000 in
theorem qX5_endPledge (l : Launch) (Γ : kG) (hL : k_Lay Γ 314) (M : kM2) (i : Nat) (hi : i < 7) (m0 : kM1) (j0 : Nat) (hj0 : 20 ≤ j0 ∧ j0 < 44) : CT l Γ (K1 Γ M i) yX5_endPledge cX5_endPledge 1 none (k_R 0) [.ref (Γ.1 i j0)] m0 (fX5_endPledge m0 j0) := by
  refine k_meth (own := RX5) (by decide) rfl (Nat.le_of_ble_eq_true rfl) (fun p e R s mid args below meth c C hr => ?_)
  show Sm Γ (K1 Γ M i) p l e R s mid args below meth c 1 false m0 [(0, .ref (Γ.1 i j0))] [] 0 (fX5_endPledge m0 j0)
  unfold fX5_endPledge
  refine k_aload_n C 0 dX5_endPledge_0 rfl rfl (pc' := 1) rfl ?_
  refine k_iconst C (v := 0) dX5_endPledge_1 (by decide) (pc' := 2) rfl ?_
  refine k_putf C (hL.k1 M i) 11 (c1 Γ M i m0 j0 (e_sack Γ hi hj0 (m0 j0))) (v_i hi (h_sack hj0)) flX5_45 fpX5_11 (Nat.le_of_ble_eq_true rfl) (s1 Γ M i m0 j0 11 0 ((e_sack Γ hi hj0 _).trans (congrArg (fun z => Sum.inr (5, z)) (f_sack (m0 j0) 0 11 (by decide))))) dX5_endPledge_2 (pc' := 5) rfl (fun m1 => ?_)
  refine k_aload_n C 0 dX5_endPledge_5 rfl rfl (pc' := 6) rfl ?_
  refine k_iconst C (v := 0) dX5_endPledge_6 (by decide) (pc' := 7) rfl ?_
  refine k_putf C (hL.k1 M i) 12 (c1 Γ M i m1 j0 (e_sack Γ hi hj0 (m1 j0))) (v_i hi (h_sack hj0)) flX5_48 fpX5_12 (Nat.le_of_ble_eq_true rfl) (s1 Γ M i m1 j0 12 0 ((e_sack Γ hi hj0 _).trans (congrArg (fun z => Sum.inr (5, z)) (f_sack (m1 j0) 0 12 (by decide))))) dX5_endPledge_7 (pc' := 10) rfl (fun m2 => ?_)
  refine k_aload_n C 0 dX5_endPledge_10 rfl rfl (pc' := 11) rfl ?_
  refine k_iconst C (v := 0) dX5_endPledge_11 (by decide) (pc' := 12) rfl ?_
  refine k_putf C (hL.k1 M i) 13 (c1 Γ M i m2 j0 (e_sack Γ hi hj0 (m2 j0))) (v_i hi (h_sack hj0)) flX5_51 fpX5_13 (Nat.le_of_ble_eq_true rfl) (s1 Γ M i m2 j0 13 0 ((e_sack Γ hi hj0 _).trans (congrArg (fun z => Sum.inr (5, z)) (f_sack (m2 j0) 0 13 (by decide))))) dX5_endPledge_12 (pc' := 15) rfl (fun m3 => ?_)
  refine k_aload_n C 0 dX5_endPledge_15 rfl rfl (pc' := 16) rfl ?_
  refine k_iconst C (v := 0) dX5_endPledge_16 (by decide) (pc' := 17) rfl ?_
  refine k_putf C (hL.k1 M i) 14 (c1 Γ M i m3 j0 (e_sack Γ hi hj0 (m3 j0))) (v_i hi (h_sack hj0)) flX5_54 fpX5_14 (Nat.le_of_ble_eq_true rfl) (s1 Γ M i m3 j0 14 0 ((e_sack Γ hi hj0 _).trans (congrArg (fun z => Sum.inr (5, z)) (f_sack (m3 j0) 0 14 (by decide))))) dX5_endPledge_17 (pc' := 20) rfl (fun m4 => ?_)
  exact k_retv C rfl hr dX5_endPledge_20
def fX5_begin (m0 : kM1) (j0 : Nat) (a1 : Int32) (a2 : Int32) (j3 : Nat) (a4 : Int32) : Option (Int32 × kM1) :=
  k_let (mu m0 j0 0 a1) fun m1 => k_let (mu m1 j0 1 a2) fun m2 => k_let (mu m2 j0 2 (m2 j3 0)) fun m3 => k_let (mu m3 j0 3 (m3 j3 1)) fun m4 => k_let (mu m4 j0 4 (m4 j3 2)) fun m5 => k_let (mu m5 j0 5 a4) fun m6 => k_let (mu m6 j0 6 0) fun m7 => k_let (mu m7 j0 7 0) fun m8 => k_let (mu m8 j0 8 0) fun m9 => k_let (mu m9 j0 9 0) fun m10 => k_let (mu m10 j0 10 0) fun m11 => bd (fX5_endPledge m11 j0) fun r12 m13 => k_let (mu m13 j0 15 0) fun m14 => k_let (mu m14 j0 16 0) fun m15 => some (0, m15)
set_option maxRecDepth 100000 in
set_option maxHeartbeats 4000000 in
theorem qX5_begin (l : Launch) (Γ : kG) (hL : k_Lay Γ 314) (M : kM2) (i : Nat) (hi : i < 7) (m0 : kM1) (j0 : Nat) (a1 : Int32) (a2 : Int32) (j3 : Nat) (a4 : Int32) (hj0 : 20 ≤ j0 ∧ j0 < 44) (hj3 : 6 ≤ j3 ∧ j3 < 12) : CT l Γ (K1 Γ M i) yX5_begin cX5_begin 5 none (k_R 1) [.ref (Γ.1 i j0), .int a1, .int a2, .ref (Γ.1 i j3), .int a4] m0 (fX5_begin m0 j0 a1 a2 j3 a4) := by
  refine k_meth (own := RX5) (by decide) rfl (Nat.le_of_ble_eq_true rfl) (fun p e R s mid args below meth c C hr => ?_)
  show Sm Γ (K1 Γ M i) p l e R s mid args below meth c 5 false m0 [(0, .ref (Γ.1 i j0)), (1, .int a1), (2, .int a2), (3, .ref (Γ.1 i j3)), (4, .int a4)] [] 0 (fX5_begin m0 j0 a1 a2 j3 a4)
  unfold fX5_begin
  refine k_aload_n C 0 dX5_begin_0 rfl rfl (pc' := 1) rfl ?_
  refine k_iload_n C 1 dX5_begin_1 rfl rfl (pc' := 2) rfl ?_
  refine k_putf C (hL.k1 M i) 0 (c1 Γ M i m0 j0 (e_sack Γ hi hj0 (m0 j0))) (v_i hi (h_sack hj0)) flX5_9 fpX5_0 (Nat.le_of_ble_eq_true rfl) (s1 Γ M i m0 j0 0 a1 ((e_sack Γ hi hj0 _).trans (congrArg (fun z => Sum.inr (5, z)) (f_sack (m0 j0) a1 0 (by decide))))) dX5_begin_2 (pc' := 5) rfl (fun m1 => ?_)
  refine k_aload_n C 0 dX5_begin_5 rfl rfl (pc' := 6) rfl ?_
  refine k_iload_n C 2 dX5_begin_6 rfl rfl (pc' := 7) rfl ?_
  refine k_putf C (hL.k1 M i) 1 (c1 Γ M i m1 j0 (e_sack Γ hi hj0 (m1 j0))) (v_i hi (h_sack hj0)) flX5_15 fpX5_1 (Nat.le_of_ble_eq_true rfl) (s1 Γ M i m1 j0 1 a2 ((e_sack Γ hi hj0 _).trans (congrArg (fun z => Sum.inr (5, z)) (f_sack (m1 j0) a2 1 (by decide))))) dX5_begin_7 (pc' := 10) rfl (fun m2 => ?_)
  refine k_aload_n C 0 dX5_begin_10 rfl rfl (pc' := 11) rfl ?_
  refine k_aload_n C 3 dX5_begin_11 rfl rfl (pc' := 12) rfl ?_
  refine k_getf C 0 (c1 Γ M i m2 j3 (e_kind Γ hi hj3 (m2 j3))) (v_i hi (h_kind hj3)) flX5_63 (v := .int (m2 j3 0)) rfl dX5_begin_12 (pc' := 15) rfl ?_
  refine k_putf C (hL.k1 M i) 2 (c1 Γ M i m2 j0 (e_sack Γ hi hj0 (m2 j0))) (v_i hi (h_sack hj0)) flX5_18 fpX5_2 (Nat.le_of_ble_eq_true rfl) (s1 Γ M i m2 j0 2 (m2 j3 0) ((e_sack Γ hi hj0 _).trans (congrArg (fun z => Sum.inr (5, z)) (f_sack (m2 j0) (m2 j3 0) 2 (by decide))))) dX5_begin_15 (pc' := 18) rfl (fun m3 => ?_)
  refine k_aload_n C 0 dX5_begin_18 rfl rfl (pc' := 19) rfl ?_
  refine k_aload_n C 3 dX5_begin_19 rfl rfl (pc' := 20) rfl ?_
  refine k_getf C 1 (c1 Γ M i m3 j3 (e_kind Γ hi hj3 (m3 j3))) (v_i hi (h_kind hj3)) flX5_66 (v := .int (m3 j3 1)) rfl dX5_begin_20 (pc' := 23) rfl ?_
  refine k_putf C (hL.k1 M i) 3 (c1 Γ M i m3 j0 (e_sack Γ hi hj0 (m3 j0))) (v_i hi (h_sack hj0)) flX5_21 fpX5_3 (Nat.le_of_ble_eq_true rfl) (s1 Γ M i m3 j0 3 (m3 j3 1) ((e_sack Γ hi hj0 _).trans (congrArg (fun z => Sum.inr (5, z)) (f_sack (m3 j0) (m3 j3 1) 3 (by decide))))) dX5_begin_23 (pc' := 26) rfl (fun m4 => ?_)
  refine k_aload_n C 0 dX5_begin_26 rfl rfl (pc' := 27) rfl ?_
  refine k_aload_n C 3 dX5_begin_27 rfl rfl (pc' := 28) rfl ?_
  refine k_getf C 2 (c1 Γ M i m4 j3 (e_kind Γ hi hj3 (m4 j3))) (v_i hi (h_kind hj3)) flX5_67 (v := .int (m4 j3 2)) rfl dX5_begin_28 (pc' := 31) rfl ?_
  refine k_putf C (hL.k1 M i) 4 (c1 Γ M i m4 j0 (e_sack Γ hi hj0 (m4 j0))) (v_i hi (h_sack hj0)) flX5_24 fpX5_4 (Nat.le_of_ble_eq_true rfl) (s1 Γ M i m4 j0 4 (m4 j3 2) ((e_sack Γ hi hj0 _).trans (congrArg (fun z => Sum.inr (5, z)) (f_sack (m4 j0) (m4 j3 2) 4 (by decide))))) dX5_begin_31 (pc' := 34) rfl (fun m5 => ?_)
  refine k_aload_n C 0 dX5_begin_34 rfl rfl (pc' := 35) rfl ?_
  refine k_iload C 4 dX5_begin_35 rfl (pc' := 37) rfl ?_
  refine k_putf C (hL.k1 M i) 5 (c1 Γ M i m5 j0 (e_sack Γ hi hj0 (m5 j0))) (v_i hi (h_sack hj0)) flX5_27 fpX5_5 (Nat.le_of_ble_eq_true rfl) (s1 Γ M i m5 j0 5 a4 ((e_sack Γ hi hj0 _).trans (congrArg (fun z => Sum.inr (5, z)) (f_sack (m5 j0) a4 5 (by decide))))) dX5_begin_37 (pc' := 40) rfl (fun m6 => ?_)
  refine k_aload_n C 0 dX5_begin_40 rfl rfl (pc' := 41) rfl ?_
  refine k_iconst C (v := 0) dX5_begin_41 (by decide) (pc' := 42) rfl ?_
  refine k_putf C (hL.k1 M i) 6 (c1 Γ M i m6 j0 (e_sack Γ hi hj0 (m6 j0))) (v_i hi (h_sack hj0)) flX5_30 fpX5_6 (Nat.le_of_ble_eq_true rfl) (s1 Γ M i m6 j0 6 0 ((e_sack Γ hi hj0 _).trans (congrArg (fun z => Sum.inr (5, z)) (f_sack (m6 j0) 0 6 (by decide))))) dX5_begin_42 (pc' := 45) rfl (fun m7 => ?_)
  refine k_aload_n C 0 dX5_begin_45 rfl rfl (pc' := 46) rfl ?_
  refine k_iconst C (v := 0) dX5_begin_46 (by decide) (pc' := 47) rfl ?_
  refine k_putf C (hL.k1 M i) 7 (c1 Γ M i m7 j0 (e_sack Γ hi hj0 (m7 j0))) (v_i hi (h_sack hj0)) flX5_33 fpX5_7 (Nat.le_of_ble_eq_true rfl) (s1 Γ M i m7 j0 7 0 ((e_sack Γ hi hj0 _).trans (congrArg (fun z => Sum.inr (5, z)) (f_sack (m7 j0) 0 7 (by decide))))) dX5_begin_47 (pc' := 50) rfl (fun m8 => ?_)
  refine k_aload_n C 0 dX5_begin_50 rfl rfl (pc' := 51) rfl ?_
  refine k_iconst C (v := 0) dX5_begin_51 (by decide) (pc' := 52) rfl ?_
  refine k_putf C (hL.k1 M i) 8 (c1 Γ M i m8 j0 (e_sack Γ hi hj0 (m8 j0))) (v_i hi (h_sack hj0)) flX5_36 fpX5_8 (Nat.le_of_ble_eq_true rfl) (s1 Γ M i m8 j0 8 0 ((e_sack Γ hi hj0 _).trans (congrArg (fun z => Sum.inr (5, z)) (f_sack (m8 j0) 0 8 (by decide))))) dX5_begin_52 (pc' := 55) rfl (fun m9 => ?_)
  refine k_aload_n C 0 dX5_begin_55 rfl rfl (pc' := 56) rfl ?_
  refine k_iconst C (v := 0) dX5_begin_56 (by decide) (pc' := 57) rfl ?_
  refine k_putf C (hL.k1 M i) 9 (c1 Γ M i m9 j0 (e_sack Γ hi hj0 (m9 j0))) (v_i hi (h_sack hj0)) flX5_39 fpX5_9 (Nat.le_of_ble_eq_true rfl) (s1 Γ M i m9 j0 9 0 ((e_sack Γ hi hj0 _).trans (congrArg (fun z => Sum.inr (5, z)) (f_sack (m9 j0) 0 9 (by decide))))) dX5_begin_57 (pc' := 60) rfl (fun m10 => ?_)
  refine k_aload_n C 0 dX5_begin_60 rfl rfl (pc' := 61) rfl ?_
  refine k_iconst C (v := 0) dX5_begin_61 (by decide) (pc' := 62) rfl ?_
  refine k_putf C (hL.k1 M i) 10 (c1 Γ M i m10 j0 (e_sack Γ hi hj0 (m10 j0))) (v_i hi (h_sack hj0)) flX5_42 fpX5_10 (Nat.le_of_ble_eq_true rfl) (s1 Γ M i m10 j0 10 0 ((e_sack Γ hi hj0 _).trans (congrArg (fun z => Sum.inr (5, z)) (f_sack (m10 j0) 0 10 (by decide))))) dX5_begin_62 (pc' := 65) rfl (fun m11 => ?_)
  refine k_aload_n C 0 dX5_begin_65 rfl rfl (pc' := 66) rfl ?_
  refine k_callVv C (rest := []) (qX5_endPledge l Γ hL M i hi m11 j0 hj0) mwX5_endPledge iwX5_endPledge mlX5_68 (k_rm_of (by decide) (by decide)) (c1 Γ M i m11 j0 (e_sack Γ hi hj0 (m11 j0))) (v_i hi (h_sack hj0)) rfl rfl rfl (Nat.le_of_ble_eq_true rfl) dX5_begin_66 (pc' := 69) rfl (fun r12 m13 => ?_)
  refine k_aload_n C 0 dX5_begin_69 rfl rfl (pc' := 70) rfl ?_
  refine k_iconst C (v := 0) dX5_begin_70 (by decide) (pc' := 71) rfl ?_
  refine k_putf C (hL.k1 M i) 15 (c1 Γ M i m13 j0 (e_sack Γ hi hj0 (m13 j0))) (v_i hi (h_sack hj0)) flX5_57 fpX5_15 (Nat.le_of_ble_eq_true rfl) (s1 Γ M i m13 j0 15 0 ((e_sack Γ hi hj0 _).trans (congrArg (fun z => Sum.inr (5, z)) (f_sack (m13 j0) 0 15 (by decide))))) dX5_begin_71 (pc' := 74) rfl (fun m14 => ?_)
  refine k_aload_n C 0 dX5_begin_74 rfl rfl (pc' := 75) rfl ?_
  refine k_iconst C (v := 0) dX5_begin_75 (by decide) (pc' := 76) rfl ?_
  refine k_putf C (hL.k1 M i) 16 (c1 Γ M i m14 j0 (e_sack Γ hi hj0 (m14 j0))) (v_i hi (h_sack hj0)) flX5_60 fpX5_16 (Nat.le_of_ble_eq_true rfl) (s1 Γ M i m14 j0 16 0 ((e_sack Γ hi hj0 _).trans (congrArg (fun z => Sum.inr (5, z)) (f_sack (m14 j0) 0 16 (by decide))))) dX5_begin_76 (pc' := 79) rfl (fun m15 => ?_)
  exact k_retv C rfl hr dX5_begin_79
def fX5_addGround (m0 : kM1) (j0 : Nat) (a1 : Int32) : Option (Int32 × kM1) :=
  k_let (mu m0 j0 7 ((m0 j0 7) + a1)) fun m1 => k_let (mu m1 j0 9 (((m1 j0 7) * (m1 j0 8)) / 100)) fun m2 => k_let (mu m2 j0 10 ((((m2 j0 7) - (m2 j0 9)) * (m2 j0 3)) / 100)) fun m3 => if (m3 j0 7) < (m3 j0 5) then some (0, m3) else k_let (mu m3 j0 6 2) fun m5 => some (0, m5)
set_option maxRecDepth 100000 in
set_option maxHeartbeats 4000000 in
theorem qX5_addGround (l : Launch) (Γ : kG) (hL : k_Lay Γ 314) (M : kM2) (i : Nat) (hi : i < 7) (m0 : kM1) (j0 : Nat) (a1 : Int32) (hj0 : 20 ≤ j0 ∧ j0 < 44) : CT l Γ (K1 Γ M i) yX5_addGround cX5_addGround 2 none (k_R 0) [.ref (Γ.1 i j0), .int a1] m0 (fX5_addGround m0 j0 a1) := by
  refine k_meth (own := RX5) (by decide) rfl (Nat.le_of_ble_eq_true rfl) (fun p e R s mid args below meth c C hr => ?_)
  show Sm Γ (K1 Γ M i) p l e R s mid args below meth c 2 false m0 [(0, .ref (Γ.1 i j0)), (1, .int a1)] [] 0 (fX5_addGround m0 j0 a1)
  unfold fX5_addGround
  refine k_aload_n C 0 dX5_addGround_0 rfl rfl (pc' := 1) rfl ?_
  refine k_dup C dX5_addGround_1 rfl (pc' := 2) rfl ?_
  refine k_getf C 7 (c1 Γ M i m0 j0 (e_sack Γ hi hj0 (m0 j0))) (v_i hi (h_sack hj0)) flX5_33 (v := .int (m0 j0 7)) rfl dX5_addGround_2 (pc' := 5) rfl ?_
  refine k_iload_n C 1 dX5_addGround_5 rfl rfl (pc' := 6) rfl ?_
  refine k_iadd C dX5_addGround_6 (pc' := 7) rfl ?_
  refine k_putf C (hL.k1 M i) 7 (c1 Γ M i m0 j0 (e_sack Γ hi hj0 (m0 j0))) (v_i hi (h_sack hj0)) flX5_33 fpX5_7 (Nat.le_of_ble_eq_true rfl) (s1 Γ M i m0 j0 7 ((m0 j0 7) + a1) ((e_sack Γ hi hj0 _).trans (congrArg (fun z => Sum.inr (5, z)) (f_sack (m0 j0) ((m0 j0 7) + a1) 7 (by decide))))) dX5_addGround_7 (pc' := 10) rfl (fun m1 => ?_)
  refine k_aload_n C 0 dX5_addGround_10 rfl rfl (pc' := 11) rfl ?_
  refine k_aload_n C 0 dX5_addGround_11 rfl rfl (pc' := 12) rfl ?_
  refine k_getf C 7 (c1 Γ M i m1 j0 (e_sack Γ hi hj0 (m1 j0))) (v_i hi (h_sack hj0)) flX5_33 (v := .int (m1 j0 7)) rfl dX5_addGround_12 (pc' := 15) rfl ?_
  refine k_aload_n C 0 dX5_addGround_15 rfl rfl (pc' := 16) rfl ?_
  refine k_getf C 8 (c1 Γ M i m1 j0 (e_sack Γ hi hj0 (m1 j0))) (v_i hi (h_sack hj0)) flX5_36 (v := .int (m1 j0 8)) rfl dX5_addGround_16 (pc' := 19) rfl ?_
  refine k_imul C dX5_addGround_19 (pc' := 20) rfl ?_
  refine k_bipush C (v := 100) dX5_addGround_20 (by decide) (pc' := 22) rfl ?_
  refine k_idivK C dX5_addGround_22 (by decide) (pc' := 23) rfl ?_
  refine k_putf C (hL.k1 M i) 9 (c1 Γ M i m1 j0 (e_sack Γ hi hj0 (m1 j0))) (v_i hi (h_sack hj0)) flX5_39 fpX5_9 (Nat.le_of_ble_eq_true rfl) (s1 Γ M i m1 j0 9 (((m1 j0 7) * (m1 j0 8)) / 100) ((e_sack Γ hi hj0 _).trans (congrArg (fun z => Sum.inr (5, z)) (f_sack (m1 j0) (((m1 j0 7) * (m1 j0 8)) / 100) 9 (by decide))))) dX5_addGround_23 (pc' := 26) rfl (fun m2 => ?_)
  refine k_aload_n C 0 dX5_addGround_26 rfl rfl (pc' := 27) rfl ?_
  refine k_aload_n C 0 dX5_addGround_27 rfl rfl (pc' := 28) rfl ?_
  refine k_getf C 7 (c1 Γ M i m2 j0 (e_sack Γ hi hj0 (m2 j0))) (v_i hi (h_sack hj0)) flX5_33 (v := .int (m2 j0 7)) rfl dX5_addGround_28 (pc' := 31) rfl ?_
  refine k_aload_n C 0 dX5_addGround_31 rfl rfl (pc' := 32) rfl ?_
  refine k_getf C 9 (c1 Γ M i m2 j0 (e_sack Γ hi hj0 (m2 j0))) (v_i hi (h_sack hj0)) flX5_39 (v := .int (m2 j0 9)) rfl dX5_addGround_32 (pc' := 35) rfl ?_
  refine k_isub C dX5_addGround_35 (pc' := 36) rfl ?_
  refine k_aload_n C 0 dX5_addGround_36 rfl rfl (pc' := 37) rfl ?_
  refine k_getf C 3 (c1 Γ M i m2 j0 (e_sack Γ hi hj0 (m2 j0))) (v_i hi (h_sack hj0)) flX5_21 (v := .int (m2 j0 3)) rfl dX5_addGround_37 (pc' := 40) rfl ?_
  refine k_imul C dX5_addGround_40 (pc' := 41) rfl ?_
  refine k_bipush C (v := 100) dX5_addGround_41 (by decide) (pc' := 43) rfl ?_
  refine k_idivK C dX5_addGround_43 (by decide) (pc' := 44) rfl ?_
  refine k_putf C (hL.k1 M i) 10 (c1 Γ M i m2 j0 (e_sack Γ hi hj0 (m2 j0))) (v_i hi (h_sack hj0)) flX5_42 fpX5_10 (Nat.le_of_ble_eq_true rfl) (s1 Γ M i m2 j0 10 ((((m2 j0 7) - (m2 j0 9)) * (m2 j0 3)) / 100) ((e_sack Γ hi hj0 _).trans (congrArg (fun z => Sum.inr (5, z)) (f_sack (m2 j0) ((((m2 j0 7) - (m2 j0 9)) * (m2 j0 3)) / 100) 10 (by decide))))) dX5_addGround_44 (pc' := 47) rfl (fun m3 => ?_)
  refine k_aload_n C 0 dX5_addGround_47 rfl rfl (pc' := 48) rfl ?_
  refine k_getf C 7 (c1 Γ M i m3 j0 (e_sack Γ hi hj0 (m3 j0))) (v_i hi (h_sack hj0)) flX5_33 (v := .int (m3 j0 7)) rfl dX5_addGround_48 (pc' := 51) rfl ?_
  refine k_aload_n C 0 dX5_addGround_51 rfl rfl (pc' := 52) rfl ?_
  refine k_getf C 5 (c1 Γ M i m3 j0 (e_sack Γ hi hj0 (m3 j0))) (v_i hi (h_sack hj0)) flX5_27 (v := .int (m3 j0 5)) rfl dX5_addGround_52 (pc' := 55) rfl ?_
  refine k_ic_lt C (tgt := 63) dX5_addGround_55 (by decide) (pc' := 58) rfl (fun h4 => ?_) (fun h4 => ?_)
  · exact k_retv C rfl hr dX5_addGround_63
  · refine k_aload_n C 0 dX5_addGround_58 rfl rfl (pc' := 59) rfl ?_
    refine k_iconst C (v := 2) dX5_addGround_59 (by decide) (pc' := 60) rfl ?_
    refine k_putf C (hL.k1 M i) 6 (c1 Γ M i m3 j0 (e_sack Γ hi hj0 (m3 j0))) (v_i hi (h_sack hj0)) flX5_30 fpX5_6 (Nat.le_of_ble_eq_true rfl) (s1 Γ M i m3 j0 6 2 ((e_sack Γ hi hj0 _).trans (congrArg (fun z => Sum.inr (5, z)) (f_sack (m3 j0) 2 6 (by decide))))) dX5_addGround_60 (pc' := 63) rfl (fun m5 => ?_)
    exact k_retv C rfl hr dX5_addGround_63
def fX5_fall (m0 : kM1) (j0 : Nat) : Option (Int32 × kM1) :=
  k_let (mu m0 j0 15 ((m0 j0 15) + (m0 j0 11))) fun m1 => bd (fX5_endPledge m1 j0) fun r2 m3 => some (0, m3)
set_option maxRecDepth 100000 in
set_option maxHeartbeats 4000000 in
theorem qX5_fall (l : Launch) (Γ : kG) (hL : k_Lay Γ 314) (M : kM2) (i : Nat) (hi : i < 7) (m0 : kM1) (j0 : Nat) (hj0 : 20 ≤ j0 ∧ j0 < 44) : CT l Γ (K1 Γ M i) yX5_fall cX5_fall 1 none (k_R 1) [.ref (Γ.1 i j0)] m0 (fX5_fall m0 j0) := by
  refine k_meth (own := RX5) (by decide) rfl (Nat.le_of_ble_eq_true rfl) (fun p e R s mid args below meth c C hr => ?_)
  show Sm Γ (K1 Γ M i) p l e R s mid args below meth c 1 false m0 [(0, .ref (Γ.1 i j0))] [] 0 (fX5_fall m0 j0)
  unfold fX5_fall
  refine k_aload_n C 0 dX5_fall_0 rfl rfl (pc' := 1) rfl ?_
  refine k_dup C dX5_fall_1 rfl (pc' := 2) rfl ?_
  refine k_getf C 15 (c1 Γ M i m0 j0 (e_sack Γ hi hj0 (m0 j0))) (v_i hi (h_sack hj0)) flX5_57 (v := .int (m0 j0 15)) rfl dX5_fall_2 (pc' := 5) rfl ?_
  refine k_aload_n C 0 dX5_fall_5 rfl rfl (pc' := 6) rfl ?_
  refine k_getf C 11 (c1 Γ M i m0 j0 (e_sack Γ hi hj0 (m0 j0))) (v_i hi (h_sack hj0)) flX5_45 (v := .int (m0 j0 11)) rfl dX5_fall_6 (pc' := 9) rfl ?_
  refine k_iadd C dX5_fall_9 (pc' := 10) rfl ?_
  refine k_putf C (hL.k1 M i) 15 (c1 Γ M i m0 j0 (e_sack Γ hi hj0 (m0 j0))) (v_i hi (h_sack hj0)) flX5_57 fpX5_15 (Nat.le_of_ble_eq_true rfl) (s1 Γ M i m0 j0 15 ((m0 j0 15) + (m0 j0 11)) ((e_sack Γ hi hj0 _).trans (congrArg (fun z => Sum.inr (5, z)) (f_sack (m0 j0) ((m0 j0 15) + (m0 j0 11)) 15 (by decide))))) dX5_fall_10 (pc' := 13) rfl (fun m1 => ?_)
  refine k_aload_n C 0 dX5_fall_13 rfl rfl (pc' := 14) rfl ?_
  refine k_callVv C (rest := []) (qX5_endPledge l Γ hL M i hi m1 j0 hj0) mwX5_endPledge iwX5_endPledge mlX5_68 (k_rm_of (by decide) (by decide)) (c1 Γ M i m1 j0 (e_sack Γ hi hj0 (m1 j0))) (v_i hi (h_sack hj0)) rfl rfl rfl (Nat.le_of_ble_eq_true rfl) dX5_fall_14 (pc' := 17) rfl (fun r2 m3 => ?_)
  exact k_retv C rfl hr dX5_fall_17
def fX5_hasPledge (m0 : kM1) (j0 : Nat) : Option (Int32 × kM1) :=
  if (m0 j0 11) ≤ 0 then some (0, m0) else some (1, m0)
set_option maxRecDepth 100000 in
set_option maxHeartbeats 4000000 in
theorem qX5_hasPledge (l : Launch) (Γ : kG) (hL : k_Lay Γ 314) (M : kM2) (i : Nat) (hi : i < 7) (m0 : kM1) (j0 : Nat) (hj0 : 20 ≤ j0 ∧ j0 < 44) : CT l Γ (K1 Γ M i) yX5_hasPledge cX5_hasPledge 1 (some .boolean) (k_R 0) [.ref (Γ.1 i j0)] m0 (fX5_hasPledge m0 j0) := by
  refine k_meth (own := RX5) (by decide) rfl (Nat.le_of_ble_eq_true rfl) (fun p e R s mid args below meth c C hr => ?_)
  show Sm Γ (K1 Γ M i) p l e R s mid args below meth c 1 true m0 [(0, .ref (Γ.1 i j0))] [] 0 (fX5_hasPledge m0 j0)
  unfold fX5_hasPledge
  refine k_aload_n C 0 dX5_hasPledge_0 rfl rfl (pc' := 1) rfl ?_
  refine k_getf C 11 (c1 Γ M i m0 j0 (e_sack Γ hi hj0 (m0 j0))) (v_i hi (h_sack hj0)) flX5_45 (v := .int (m0 j0 11)) rfl dX5_hasPledge_1 (pc' := 4) rfl ?_
  refine k_if_le C (tgt := 11) dX5_hasPledge_4 (by decide) (pc' := 7) rfl (fun h1 => ?_) (fun h1 => ?_)
  · refine k_iconst C (v := 0) dX5_hasPledge_11 (by decide) (pc' := 12) rfl ?_
    exact k_retz C rfl hr (Or.inl rfl) dX5_hasPledge_12
  · refine k_iconst C (v := 1) dX5_hasPledge_7 (by decide) (pc' := 8) rfl ?_
    refine k_goto C (pc' := 12) dX5_hasPledge_8 (by decide) ?_
    exact k_retz C rfl hr (Or.inr rfl) dX5_hasPledge_12
def fX5_grain (m0 : kM1) (j0 : Nat) : Option (Int32 × kM1) :=
  if (m0 j0 6) = 3 then some (0, m0) else some ((m0 j0 5) - (m0 j0 7), m0)
set_option maxRecDepth 100000 in
set_option maxHeartbeats 4000000 in
theorem qX5_grain (l : Launch) (Γ : kG) (hL : k_Lay Γ 314) (M : kM2) (i : Nat) (hi : i < 7) (m0 : kM1) (j0 : Nat) (hj0 : 20 ≤ j0 ∧ j0 < 44) : CT l Γ (K1 Γ M i) yX5_grain cX5_grain 1 (some .int) (k_R 0) [.ref (Γ.1 i j0)] m0 (fX5_grain m0 j0) := by
  refine k_meth (own := RX5) (by decide) rfl (Nat.le_of_ble_eq_true rfl) (fun p e R s mid args below meth c C hr => ?_)
  show Sm Γ (K1 Γ M i) p l e R s mid args below meth c 1 true m0 [(0, .ref (Γ.1 i j0))] [] 0 (fX5_grain m0 j0)
  unfold fX5_grain
  refine k_aload_n C 0 dX5_grain_0 rfl rfl (pc' := 1) rfl ?_
  refine k_getf C 6 (c1 Γ M i m0 j0 (e_sack Γ hi hj0 (m0 j0))) (v_i hi (h_sack hj0)) flX5_30 (v := .int (m0 j0 6)) rfl dX5_grain_1 (pc' := 4) rfl ?_
  refine k_iconst C (v := 3) dX5_grain_4 (by decide) (pc' := 5) rfl ?_
  refine k_ic_ne C (tgt := 12) dX5_grain_5 (by decide) (pc' := 8) rfl (fun h1 => ?_) (fun h1 => ?_)
  · refine k_aload_n C 0 dX5_grain_12 rfl rfl (pc' := 13) rfl ?_
    refine k_getf C 5 (c1 Γ M i m0 j0 (e_sack Γ hi hj0 (m0 j0))) (v_i hi (h_sack hj0)) flX5_27 (v := .int (m0 j0 5)) rfl dX5_grain_13 (pc' := 16) rfl ?_
    refine k_aload_n C 0 dX5_grain_16 rfl rfl (pc' := 17) rfl ?_
    refine k_getf C 7 (c1 Γ M i m0 j0 (e_sack Γ hi hj0 (m0 j0))) (v_i hi (h_sack hj0)) flX5_33 (v := .int (m0 j0 7)) rfl dX5_grain_17 (pc' := 20) rfl ?_
    refine k_isub C dX5_grain_20 (pc' := 21) rfl ?_
    exact k_reti C rfl hr dX5_grain_21
  · refine k_iconst C (v := 0) dX5_grain_8 (by decide) (pc' := 9) rfl ?_
    refine k_goto C (pc' := 21) dX5_grain_9 (by decide) ?_
    exact k_reti C rfl hr dX5_grain_21
def fX5_flour (m0 : kM1) (j0 : Nat) : Option (Int32 × kM1) :=
  if (m0 j0 6) = 3 then some (0, m0) else some (((((m0 j0 7) - (m0 j0 9)) - (m0 j0 10)) - (m0 j0 11)) - (m0 j0 15), m0)
set_option maxRecDepth 100000 in
set_option maxHeartbeats 4000000 in
theorem qX5_flour (l : Launch) (Γ : kG) (hL : k_Lay Γ 314) (M : kM2) (i : Nat) (hi : i < 7) (m0 : kM1) (j0 : Nat) (hj0 : 20 ≤ j0 ∧ j0 < 44) : CT l Γ (K1 Γ M i) yX5_flour cX5_flour 1 (some .int) (k_R 0) [.ref (Γ.1 i j0)] m0 (fX5_flour m0 j0) := by
  refine k_meth (own := RX5) (by decide) rfl (Nat.le_of_ble_eq_true rfl) (fun p e R s mid args below meth c C hr => ?_)
  show Sm Γ (K1 Γ M i) p l e R s mid args below meth c 1 true m0 [(0, .ref (Γ.1 i j0))] [] 0 (fX5_flour m0 j0)
  unfold fX5_flour
  refine k_aload_n C 0 dX5_flour_0 rfl rfl (pc' := 1) rfl ?_
  refine k_getf C 6 (c1 Γ M i m0 j0 (e_sack Γ hi hj0 (m0 j0))) (v_i hi (h_sack hj0)) flX5_30 (v := .int (m0 j0 6)) rfl dX5_flour_1 (pc' := 4) rfl ?_
  refine k_iconst C (v := 3) dX5_flour_4 (by decide) (pc' := 5) rfl ?_
  refine k_ic_ne C (tgt := 12) dX5_flour_5 (by decide) (pc' := 8) rfl (fun h1 => ?_) (fun h1 => ?_)
  · refine k_aload_n C 0 dX5_flour_12 rfl rfl (pc' := 13) rfl ?_
    refine k_getf C 7 (c1 Γ M i m0 j0 (e_sack Γ hi hj0 (m0 j0))) (v_i hi (h_sack hj0)) flX5_33 (v := .int (m0 j0 7)) rfl dX5_flour_13 (pc' := 16) rfl ?_
    refine k_aload_n C 0 dX5_flour_16 rfl rfl (pc' := 17) rfl ?_
    refine k_getf C 9 (c1 Γ M i m0 j0 (e_sack Γ hi hj0 (m0 j0))) (v_i hi (h_sack hj0)) flX5_39 (v := .int (m0 j0 9)) rfl dX5_flour_17 (pc' := 20) rfl ?_
    refine k_isub C dX5_flour_20 (pc' := 21) rfl ?_
    refine k_aload_n C 0 dX5_flour_21 rfl rfl (pc' := 22) rfl ?_
    refine k_getf C 10 (c1 Γ M i m0 j0 (e_sack Γ hi hj0 (m0 j0))) (v_i hi (h_sack hj0)) flX5_42 (v := .int (m0 j0 10)) rfl dX5_flour_22 (pc' := 25) rfl ?_
    refine k_isub C dX5_flour_25 (pc' := 26) rfl ?_
    refine k_aload_n C 0 dX5_flour_26 rfl rfl (pc' := 27) rfl ?_
    refine k_getf C 11 (c1 Γ M i m0 j0 (e_sack Γ hi hj0 (m0 j0))) (v_i hi (h_sack hj0)) flX5_45 (v := .int (m0 j0 11)) rfl dX5_flour_27 (pc' := 30) rfl ?_
    refine k_isub C dX5_flour_30 (pc' := 31) rfl ?_
    refine k_aload_n C 0 dX5_flour_31 rfl rfl (pc' := 32) rfl ?_
    refine k_getf C 15 (c1 Γ M i m0 j0 (e_sack Γ hi hj0 (m0 j0))) (v_i hi (h_sack hj0)) flX5_57 (v := .int (m0 j0 15)) rfl dX5_flour_32 (pc' := 35) rfl ?_
    refine k_isub C dX5_flour_35 (pc' := 36) rfl ?_
    exact k_reti C rfl hr dX5_flour_36
  · refine k_iconst C (v := 0) dX5_flour_8 (by decide) (pc' := 9) rfl ?_
    refine k_goto C (pc' := 36) dX5_flour_9 (by decide) ?_
    exact k_reti C rfl hr dX5_flour_36
def fX5_isOf_b26 (j0 : Nat) (a1 : Int32) (a2 : Int32)  (m0 : kM1) : Option (Int32 × kM1) :=
  some (1, m0)
set_option maxRecDepth 100000 in
set_option maxHeartbeats 4000000 in
theorem sX5_isOf_b26 {l : Launch} {Γ : kG} (hL : k_Lay Γ 314) {M : kM2} {i : Nat} (hi : i < 7) {p : Program} {e : Env} {R : Room} {s : State} {mid : MethodId} {args : Array Value} {below : List Frame} {meth : Method} {c : Code} (C : k_C Γ p R s mid args meth c cX5_isOf 3 RX5 (k_R 0)) (hr : meth.sig.returnType = (some .boolean)) (j0 : Nat) (a1 : Int32) (a2 : Int32) (hj0 : 20 ≤ j0 ∧ j0 < 44)  (m0 : kM1)   : Sm Γ (K1 Γ M i) p l e R s mid args below meth c 3 true m0 [] [] 26 (fX5_isOf_b26 j0 a1 a2 m0) := by
  unfold fX5_isOf_b26
  refine k_iconst C (v := 1) dX5_isOf_26 (by decide) (pc' := 27) rfl ?_
  refine k_goto C (pc' := 31) dX5_isOf_27 (by decide) ?_
  exact k_retz C rfl hr (Or.inr rfl) dX5_isOf_31
def fX5_isOf_b13 (j0 : Nat) (a1 : Int32) (a2 : Int32)  (m0 : kM1) : Option (Int32 × kM1) :=
  if a2 = (-1) then fX5_isOf_b26 j0 a1 a2 m0 else if a2 = (m0 j0 1) then fX5_isOf_b26 j0 a1 a2 m0 else some (0, m0)
set_option maxRecDepth 100000 in
set_option maxHeartbeats 4000000 in
theorem sX5_isOf_b13 {l : Launch} {Γ : kG} (hL : k_Lay Γ 314) {M : kM2} {i : Nat} (hi : i < 7) {p : Program} {e : Env} {R : Room} {s : State} {mid : MethodId} {args : Array Value} {below : List Frame} {meth : Method} {c : Code} (C : k_C Γ p R s mid args meth c cX5_isOf 3 RX5 (k_R 0)) (hr : meth.sig.returnType = (some .boolean)) (j0 : Nat) (a1 : Int32) (a2 : Int32) (hj0 : 20 ≤ j0 ∧ j0 < 44)  (m0 : kM1)   : Sm Γ (K1 Γ M i) p l e R s mid args below meth c 3 true m0 [(0, .ref (Γ.1 i j0)), (2, .int a2)] [] 13 (fX5_isOf_b13 j0 a1 a2 m0) := by
  unfold fX5_isOf_b13
  refine k_iload_n C 1 dX5_isOf_13 rfl rfl (pc' := 14) rfl ?_
  refine k_iconst C (v := (-1)) dX5_isOf_14 (by decide) (pc' := 15) rfl ?_
  refine k_ic_eq C (tgt := 26) dX5_isOf_15 (by decide) (pc' := 18) rfl (fun h2 => ?_) (fun h2 => ?_)
  · refine k_sub [] rfl ?_
    exact sX5_isOf_b26 hL hi C hr j0 a1 a2 hj0 m0
  · refine k_iload_n C 1 dX5_isOf_18 rfl rfl (pc' := 19) rfl ?_
    refine k_aload_n C 0 dX5_isOf_19 rfl rfl (pc' := 20) rfl ?_
    refine k_getf C 1 (c1 Γ M i m0 j0 (e_sack Γ hi hj0 (m0 j0))) (v_i hi (h_sack hj0)) flX5_15 (v := .int (m0 j0 1)) rfl dX5_isOf_20 (pc' := 23) rfl ?_
    refine k_ic_ne C (tgt := 30) dX5_isOf_23 (by decide) (pc' := 26) rfl (fun h3 => ?_) (fun h3 => ?_)
    · refine k_iconst C (v := 0) dX5_isOf_30 (by decide) (pc' := 31) rfl ?_
      exact k_retz C rfl hr (Or.inl rfl) dX5_isOf_31
    · refine k_sub [] rfl ?_
      exact sX5_isOf_b26 hL hi C hr j0 a1 a2 hj0 m0
def fX5_isOf (m0 : kM1) (j0 : Nat) (a1 : Int32) (a2 : Int32) : Option (Int32 × kM1) :=
  if a1 = (-1) then fX5_isOf_b13 j0 a1 a2 m0 else if a1 = (m0 j0 0) then fX5_isOf_b13 j0 a1 a2 m0 else some (0, m0)
set_option maxRecDepth 100000 in
set_option maxHeartbeats 4000000 in
theorem qX5_isOf (l : Launch) (Γ : kG) (hL : k_Lay Γ 314) (M : kM2) (i : Nat) (hi : i < 7) (m0 : kM1) (j0 : Nat) (a1 : Int32) (a2 : Int32) (hj0 : 20 ≤ j0 ∧ j0 < 44) : CT l Γ (K1 Γ M i) yX5_isOf cX5_isOf 3 (some .boolean) (k_R 0) [.ref (Γ.1 i j0), .int a1, .int a2] m0 (fX5_isOf m0 j0 a1 a2) := by
  refine k_meth (own := RX5) (by decide) rfl (Nat.le_of_ble_eq_true rfl) (fun p e R s mid args below meth c C hr => ?_)
  show Sm Γ (K1 Γ M i) p l e R s mid args below meth c 3 true m0 [(0, .ref (Γ.1 i j0)), (1, .int a1), (2, .int a2)] [] 0 (fX5_isOf m0 j0 a1 a2)
  unfold fX5_isOf
  refine k_iload_n C 1 dX5_isOf_0 rfl rfl (pc' := 1) rfl ?_
  refine k_iconst C (v := (-1)) dX5_isOf_1 (by decide) (pc' := 2) rfl ?_
  refine k_ic_eq C (tgt := 13) dX5_isOf_2 (by decide) (pc' := 5) rfl (fun h1 => ?_) (fun h1 => ?_)
  · refine k_sub [0, 2] rfl ?_
    exact sX5_isOf_b13 hL hi C hr j0 a1 a2 hj0 m0
  · refine k_iload_n C 1 dX5_isOf_5 rfl rfl (pc' := 6) rfl ?_
    refine k_aload_n C 0 dX5_isOf_6 rfl rfl (pc' := 7) rfl ?_
    refine k_getf C 0 (c1 Γ M i m0 j0 (e_sack Γ hi hj0 (m0 j0))) (v_i hi (h_sack hj0)) flX5_9 (v := .int (m0 j0 0)) rfl dX5_isOf_7 (pc' := 10) rfl ?_
    refine k_ic_ne C (tgt := 30) dX5_isOf_10 (by decide) (pc' := 13) rfl (fun h4 => ?_) (fun h4 => ?_)
    · refine k_iconst C (v := 0) dX5_isOf_30 (by decide) (pc' := 31) rfl ?_
      exact k_retz C rfl hr (Or.inl rfl) dX5_isOf_31
    · refine k_sub [0, 2] rfl ?_
      exact sX5_isOf_b13 hL hi C hr j0 a1 a2 hj0 m0
def fX5_tell (m0 : kM1) (j0 : Nat) (a1 : Int32) : Option (Int32 × kM1) :=
  if a1 = 0 then some (m0 j0 0, m0) else if a1 = 1 then some (m0 j0 1, m0) else if a1 = 2 then some (m0 j0 5, m0) else if a1 = 3 then some (m0 j0 6, m0) else if a1 = 4 then bd (fX5_grain m0 j0) fun r6 m7 => some (r6, m7) else if a1 = 5 then bd (fX5_flour m0 j0) fun r9 m10 => some (r9, m10) else if a1 = 6 then some (m0 j0 9, m0) else if a1 = 7 then some (m0 j0 10, m0) else if a1 = 8 then some (m0 j0 11, m0) else if a1 = 9 then some (m0 j0 15, m0) else some (m0 j0 16, m0)
set_option maxRecDepth 100000 in
set_option maxHeartbeats 4000000 in
theorem qX5_tell (l : Launch) (Γ : kG) (hL : k_Lay Γ 314) (M : kM2) (i : Nat) (hi : i < 7) (m0 : kM1) (j0 : Nat) (a1 : Int32) (hj0 : 20 ≤ j0 ∧ j0 < 44) : CT l Γ (K1 Γ M i) yX5_tell cX5_tell 2 (some .int) (k_R 1) [.ref (Γ.1 i j0), .int a1] m0 (fX5_tell m0 j0 a1) := by
  refine k_meth (own := RX5) (by decide) rfl (Nat.le_of_ble_eq_true rfl) (fun p e R s mid args below meth c C hr => ?_)
  show Sm Γ (K1 Γ M i) p l e R s mid args below meth c 2 true m0 [(0, .ref (Γ.1 i j0)), (1, .int a1)] [] 0 (fX5_tell m0 j0 a1)
  unfold fX5_tell
  refine k_iload_n C 1 dX5_tell_0 rfl rfl (pc' := 1) rfl ?_
  refine k_ite (fun h1 => ?_) (fun h1 => ?_)
  · refine k_tswIn C (55) dX5_tell_1 h1 (by decide) (by decide) rfl (pc' := 56) (by decide) ?_
    refine k_aload_n C 0 dX5_tell_56 rfl rfl (pc' := 57) rfl ?_
    refine k_getf C 0 (c1 Γ M i m0 j0 (e_sack Γ hi hj0 (m0 j0))) (v_i hi (h_sack hj0)) flX5_9 (v := .int (m0 j0 0)) rfl dX5_tell_57 (pc' := 60) rfl ?_
    exact k_reti C rfl hr dX5_tell_60
  refine k_ite (fun h2 => ?_) (fun h2 => ?_)
  · refine k_tswIn C (60) dX5_tell_1 h2 (by decide) (by decide) rfl (pc' := 61) (by decide) ?_
    refine k_aload_n C 0 dX5_tell_61 rfl rfl (pc' := 62) rfl ?_
    refine k_getf C 1 (c1 Γ M i m0 j0 (e_sack Γ hi hj0 (m0 j0))) (v_i hi (h_sack hj0)) flX5_15 (v := .int (m0 j0 1)) rfl dX5_tell_62 (pc' := 65) rfl ?_
    exact k_reti C rfl hr dX5_tell_65
  refine k_ite (fun h3 => ?_) (fun h3 => ?_)
  · refine k_tswIn C (65) dX5_tell_1 h3 (by decide) (by decide) rfl (pc' := 66) (by decide) ?_
    refine k_aload_n C 0 dX5_tell_66 rfl rfl (pc' := 67) rfl ?_
    refine k_getf C 5 (c1 Γ M i m0 j0 (e_sack Γ hi hj0 (m0 j0))) (v_i hi (h_sack hj0)) flX5_27 (v := .int (m0 j0 5)) rfl dX5_tell_67 (pc' := 70) rfl ?_
    exact k_reti C rfl hr dX5_tell_70
  refine k_ite (fun h4 => ?_) (fun h4 => ?_)
  · refine k_tswIn C (70) dX5_tell_1 h4 (by decide) (by decide) rfl (pc' := 71) (by decide) ?_
    refine k_aload_n C 0 dX5_tell_71 rfl rfl (pc' := 72) rfl ?_
    refine k_getf C 6 (c1 Γ M i m0 j0 (e_sack Γ hi hj0 (m0 j0))) (v_i hi (h_sack hj0)) flX5_30 (v := .int (m0 j0 6)) rfl dX5_tell_72 (pc' := 75) rfl ?_
    exact k_reti C rfl hr dX5_tell_75
  refine k_ite (fun h5 => ?_) (fun h5 => ?_)
  · refine k_tswIn C (75) dX5_tell_1 h5 (by decide) (by decide) rfl (pc' := 76) (by decide) ?_
    refine k_aload_n C 0 dX5_tell_76 rfl rfl (pc' := 77) rfl ?_
    refine k_callVi C (rest := []) (qX5_grain l Γ hL M i hi m0 j0 hj0) mwX5_grain iwX5_grain mlX5_71 (k_rm_of (by decide) (by decide)) (c1 Γ M i m0 j0 (e_sack Γ hi hj0 (m0 j0))) (v_i hi (h_sack hj0)) rfl rfl rfl (Nat.le_of_ble_eq_true rfl) dX5_tell_77 (pc' := 80) rfl (fun r6 m7 => ?_)
    exact k_reti C rfl hr dX5_tell_80
  refine k_ite (fun h8 => ?_) (fun h8 => ?_)
  · refine k_tswIn C (80) dX5_tell_1 h8 (by decide) (by decide) rfl (pc' := 81) (by decide) ?_
    refine k_aload_n C 0 dX5_tell_81 rfl rfl (pc' := 82) rfl ?_
    refine k_callVi C (rest := []) (qX5_flour l Γ hL M i hi m0 j0 hj0) mwX5_flour iwX5_flour mlX5_75 (k_rm_of (by decide) (by decide)) (c1 Γ M i m0 j0 (e_sack Γ hi hj0 (m0 j0))) (v_i hi (h_sack hj0)) rfl rfl rfl (Nat.le_of_ble_eq_true rfl) dX5_tell_82 (pc' := 85) rfl (fun r9 m10 => ?_)
    exact k_reti C rfl hr dX5_tell_85
  refine k_ite (fun h11 => ?_) (fun h11 => ?_)
  · refine k_tswIn C (85) dX5_tell_1 h11 (by decide) (by decide) rfl (pc' := 86) (by decide) ?_
    refine k_aload_n C 0 dX5_tell_86 rfl rfl (pc' := 87) rfl ?_
    refine k_getf C 9 (c1 Γ M i m0 j0 (e_sack Γ hi hj0 (m0 j0))) (v_i hi (h_sack hj0)) flX5_39 (v := .int (m0 j0 9)) rfl dX5_tell_87 (pc' := 90) rfl ?_
    exact k_reti C rfl hr dX5_tell_90
  refine k_ite (fun h12 => ?_) (fun h12 => ?_)
  · refine k_tswIn C (90) dX5_tell_1 h12 (by decide) (by decide) rfl (pc' := 91) (by decide) ?_
    refine k_aload_n C 0 dX5_tell_91 rfl rfl (pc' := 92) rfl ?_
    refine k_getf C 10 (c1 Γ M i m0 j0 (e_sack Γ hi hj0 (m0 j0))) (v_i hi (h_sack hj0)) flX5_42 (v := .int (m0 j0 10)) rfl dX5_tell_92 (pc' := 95) rfl ?_
    exact k_reti C rfl hr dX5_tell_95
  refine k_ite (fun h13 => ?_) (fun h13 => ?_)
  · refine k_tswIn C (95) dX5_tell_1 h13 (by decide) (by decide) rfl (pc' := 96) (by decide) ?_
    refine k_aload_n C 0 dX5_tell_96 rfl rfl (pc' := 97) rfl ?_
    refine k_getf C 11 (c1 Γ M i m0 j0 (e_sack Γ hi hj0 (m0 j0))) (v_i hi (h_sack hj0)) flX5_45 (v := .int (m0 j0 11)) rfl dX5_tell_97 (pc' := 100) rfl ?_
    exact k_reti C rfl hr dX5_tell_100
  refine k_ite (fun h14 => ?_) (fun h14 => ?_)
  · refine k_tswIn C (100) dX5_tell_1 h14 (by decide) (by decide) rfl (pc' := 101) (by decide) ?_
    refine k_aload_n C 0 dX5_tell_101 rfl rfl (pc' := 102) rfl ?_
    refine k_getf C 15 (c1 Γ M i m0 j0 (e_sack Γ hi hj0 (m0 j0))) (v_i hi (h_sack hj0)) flX5_57 (v := .int (m0 j0 15)) rfl dX5_tell_102 (pc' := 105) rfl ?_
    exact k_reti C rfl hr dX5_tell_105
  refine k_tswOut C dX5_tell_1 (by have z0 := lv_neT h1 (show (0 : Int32).toInt = 0 by decide); have z1 := lv_neT h2 (show (1 : Int32).toInt = 1 by decide); have z2 := lv_neT h3 (show (2 : Int32).toInt = 2 by decide); have z3 := lv_neT h4 (show (3 : Int32).toInt = 3 by decide); have z4 := lv_neT h5 (show (4 : Int32).toInt = 4 by decide); have z5 := lv_neT h8 (show (5 : Int32).toInt = 5 by decide); have z6 := lv_neT h11 (show (6 : Int32).toInt = 6 by decide); have z7 := lv_neT h12 (show (7 : Int32).toInt = 7 by decide); have z8 := lv_neT h13 (show (8 : Int32).toInt = 8 by decide); have z9 := lv_neT h14 (show (9 : Int32).toInt = 9 by decide); omega) (pc' := 106) (by decide) ?_
  refine k_aload_n C 0 dX5_tell_106 rfl rfl (pc' := 107) rfl ?_
  refine k_getf C 16 (c1 Γ M i m0 j0 (e_sack Γ hi hj0 (m0 j0))) (v_i hi (h_sack hj0)) flX5_60 (v := .int (m0 j0 16)) rfl dX5_tell_107 (pc' := 110) rfl ?_
  exact k_reti C rfl hr dX5_tell_110
def fX3_copyGrainFrom_b88 (i0 : Nat) (i1 : Nat) : Nat → kM2 → Int32 → Option (Int32 × kM2)
  | 0, _, _ => none
  | n + 1, M0, b2 =>
  if (M0 i0 0 7) ≤ b2 then some (0, M0) else if ¬ b2 < 0 ∧ b2.toNatClampNeg < 24 then if ¬ b2 < 0 ∧ b2.toNatClampNeg < 24 then bd (fX5_takeFrom M0 i0 ((20 + b2.toNatClampNeg)) i1 ((20 + b2.toNatClampNeg))) fun r9 M10 => k_let (b2 + 1) fun v11 => fX3_copyGrainFrom_b88 i0 i1 n M10 v11 else none else none
set_option maxRecDepth 100000 in
set_option maxHeartbeats 4000000 in
theorem sX3_copyGrainFrom_b88 {l : Launch} {Γ : kG} (hL : k_Lay Γ 314) {p : Program} {e : Env} {R : Room} {s : State} {mid : MethodId} {args : Array Value} {below : List Frame} {meth : Method} {c : Code} (C : k_C Γ p R s mid args meth c cX3_copyGrainFrom 3 RX3 (k_R 1)) (hr : meth.sig.returnType = none) (i0 : Nat) (i1 : Nat) (hi0 : i0 < 7) (hi1 : i1 < 7)  (n : Nat) : ∀ (M0 : kM2) (b2 : Int32), Sm Γ (K2 Γ) p l e R s mid args below meth c 3 false M0 [(0, .ref (Γ.1 i0 0)), (1, .ref (Γ.1 i1 0)), (2, .int b2)] [] 88 (fX3_copyGrainFrom_b88 i0 i1 n M0 b2) := by
  induction n with
  | zero => intros; exact k_none
  | succ n ih =>
    intro M0 b2
    unfold fX3_copyGrainFrom_b88
    refine k_iload_n C 2 dX3_copyGrainFrom_88 rfl rfl (pc' := 89) rfl ?_
    refine k_aload_n C 0 dX3_copyGrainFrom_89 rfl rfl (pc' := 90) rfl ?_
    refine k_getf C 7 (c2 Γ M0 i0 0 (e_mill Γ hi0 (M0 i0 0))) (v_i hi0 (by decide)) flX3_97 (v := .int (M0 i0 0 7)) rfl dX3_copyGrainFrom_90 (pc' := 93) rfl ?_
    refine k_ic_ge C (tgt := 117) dX3_copyGrainFrom_93 (by decide) (pc' := 96) rfl (fun h6 => ?_) (fun h6 => ?_)
    · exact k_retv C rfl hr dX3_copyGrainFrom_117
    · refine k_aload_n C 0 dX3_copyGrainFrom_96 rfl rfl (pc' := 97) rfl ?_
      refine k_getf C 4 (c2 Γ M0 i0 0 (e_mill Γ hi0 (M0 i0 0))) (v_i hi0 (by decide)) flX3_43 (v := .ref (Γ.1 i0 5)) rfl dX3_copyGrainFrom_97 (pc' := 100) rfl ?_
      refine k_iload_n C 2 dX3_copyGrainFrom_100 rfl rfl (pc' := 101) rfl ?_
      refine k_aald C 4 (c2 Γ M0 i0 5 (e_sacks Γ hi0 (M0 i0 5))) (v_i hi0 (by decide)) rfl (b := Γ.1 i0 (20 + b2.toNatClampNeg)) rfl dX3_copyGrainFrom_101 (pc' := 102) rfl (fun h7 => ?_)
      refine k_aload_n C 1 dX3_copyGrainFrom_102 rfl rfl (pc' := 103) rfl ?_
      refine k_getf C 4 (c2 Γ M0 i1 0 (e_mill Γ hi1 (M0 i1 0))) (v_i hi1 (by decide)) flX3_43 (v := .ref (Γ.1 i1 5)) rfl dX3_copyGrainFrom_103 (pc' := 106) rfl ?_
      refine k_iload_n C 2 dX3_copyGrainFrom_106 rfl rfl (pc' := 107) rfl ?_
      refine k_aald C 4 (c2 Γ M0 i1 5 (e_sacks Γ hi1 (M0 i1 5))) (v_i hi1 (by decide)) rfl (b := Γ.1 i1 (20 + b2.toNatClampNeg)) rfl dX3_copyGrainFrom_107 (pc' := 108) rfl (fun h8 => ?_)
      refine k_callVv C (rest := []) (qX5_takeFrom l Γ hL M0 i0 ((20 + b2.toNatClampNeg)) i1 ((20 + b2.toNatClampNeg)) hi0 (j_sack h7) hi1 (j_sack h8)) mwX5_takeFrom iwX5_takeFrom mlX3_107 (k_rm_of (by decide) (by decide)) (c2 Γ M0 i0 (20 + b2.toNatClampNeg) (e_sack Γ hi0 (j_sack h7) (M0 i0 (20 + b2.toNatClampNeg)))) (v_i hi0 (h_sack (j_sack h7))) rfl rfl rfl (Nat.le_of_ble_eq_true rfl) dX3_copyGrainFrom_108 (pc' := 111) rfl (fun r9 M10 => ?_)
      refine k_iinc (v := 1) (q := 2) (lv' := [(0, .ref (Γ.1 i0 0)), (1, .ref (Γ.1 i1 0))]) C dX3_copyGrainFrom_111 rfl (by decide) (by decide) (pc' := 114) rfl (fun _ => rfl) (fun v11 => ?_)
      refine k_goto C (pc' := 88) dX3_copyGrainFrom_114 (by decide) ?_
      refine k_sub [1, 2, 0] rfl ?_
      exact ih M10 v11
def fX3_copyGrainFrom_b57 (i0 : Nat) (i1 : Nat) : Nat → kM2 → Int32 → Option (Int32 × kM2)
  | 0, _, _ => none
  | n + 1, M0, b2 =>
  if (M0 i0 0 6) ≤ b2 then fX3_copyGrainFrom_b88 i0 i1 kFu M0 0 else if ¬ b2 < 0 ∧ b2.toNatClampNeg < 8 then if ¬ b2 < 0 ∧ b2.toNatClampNeg < 8 then bd (fX0_takeFrom M0 i0 ((12 + b2.toNatClampNeg)) i1 ((12 + b2.toNatClampNeg))) fun r14 M15 => k_let (b2 + 1) fun v16 => fX3_copyGrainFrom_b57 i0 i1 n M15 v16 else none else none
set_option maxRecDepth 100000 in
set_option maxHeartbeats 4000000 in
theorem sX3_copyGrainFrom_b57 {l : Launch} {Γ : kG} (hL : k_Lay Γ 314) {p : Program} {e : Env} {R : Room} {s : State} {mid : MethodId} {args : Array Value} {below : List Frame} {meth : Method} {c : Code} (C : k_C Γ p R s mid args meth c cX3_copyGrainFrom 3 RX3 (k_R 1)) (hr : meth.sig.returnType = none) (i0 : Nat) (i1 : Nat) (hi0 : i0 < 7) (hi1 : i1 < 7)  (n : Nat) : ∀ (M0 : kM2) (b2 : Int32), Sm Γ (K2 Γ) p l e R s mid args below meth c 3 false M0 [(0, .ref (Γ.1 i0 0)), (1, .ref (Γ.1 i1 0)), (2, .int b2)] [] 57 (fX3_copyGrainFrom_b57 i0 i1 n M0 b2) := by
  induction n with
  | zero => intros; exact k_none
  | succ n ih =>
    intro M0 b2
    unfold fX3_copyGrainFrom_b57
    refine k_iload_n C 2 dX3_copyGrainFrom_57 rfl rfl (pc' := 58) rfl ?_
    refine k_aload_n C 0 dX3_copyGrainFrom_58 rfl rfl (pc' := 59) rfl ?_
    refine k_getf C 6 (c2 Γ M0 i0 0 (e_mill Γ hi0 (M0 i0 0))) (v_i hi0 (by decide)) flX3_94 (v := .int (M0 i0 0 6)) rfl dX3_copyGrainFrom_59 (pc' := 62) rfl ?_
    refine k_ic_ge C (tgt := 86) dX3_copyGrainFrom_62 (by decide) (pc' := 65) rfl (fun h5 => ?_) (fun h5 => ?_)
    · refine k_iconst C (v := 0) dX3_copyGrainFrom_86 (by decide) (pc' := 87) rfl ?_
      refine k_istore_n C (lv' := [(2, .int 0), (0, .ref (Γ.1 i0 0)), (1, .ref (Γ.1 i1 0))]) dX3_copyGrainFrom_87 rfl (by decide) rfl (pc' := 88) rfl ?_
      refine k_sub [1, 2, 0] rfl ?_
      exact sX3_copyGrainFrom_b88 hL C hr i0 i1 hi0 hi1 kFu M0 0
    · refine k_aload_n C 0 dX3_copyGrainFrom_65 rfl rfl (pc' := 66) rfl ?_
      refine k_getf C 3 (c2 Γ M0 i0 0 (e_mill Γ hi0 (M0 i0 0))) (v_i hi0 (by decide)) flX3_37 (v := .ref (Γ.1 i0 4)) rfl dX3_copyGrainFrom_66 (pc' := 69) rfl ?_
      refine k_iload_n C 2 dX3_copyGrainFrom_69 rfl rfl (pc' := 70) rfl ?_
      refine k_aald C 3 (c2 Γ M0 i0 4 (e_farmers Γ hi0 (M0 i0 4))) (v_i hi0 (by decide)) rfl (b := Γ.1 i0 (12 + b2.toNatClampNeg)) rfl dX3_copyGrainFrom_70 (pc' := 71) rfl (fun h12 => ?_)
      refine k_aload_n C 1 dX3_copyGrainFrom_71 rfl rfl (pc' := 72) rfl ?_
      refine k_getf C 3 (c2 Γ M0 i1 0 (e_mill Γ hi1 (M0 i1 0))) (v_i hi1 (by decide)) flX3_37 (v := .ref (Γ.1 i1 4)) rfl dX3_copyGrainFrom_72 (pc' := 75) rfl ?_
      refine k_iload_n C 2 dX3_copyGrainFrom_75 rfl rfl (pc' := 76) rfl ?_
      refine k_aald C 3 (c2 Γ M0 i1 4 (e_farmers Γ hi1 (M0 i1 4))) (v_i hi1 (by decide)) rfl (b := Γ.1 i1 (12 + b2.toNatClampNeg)) rfl dX3_copyGrainFrom_76 (pc' := 77) rfl (fun h13 => ?_)
      refine k_callVv C (rest := []) (qX0_takeFrom l Γ hL M0 i0 ((12 + b2.toNatClampNeg)) i1 ((12 + b2.toNatClampNeg)) hi0 (j_farmer h12) hi1 (j_farmer h13)) mwX0_takeFrom iwX0_takeFrom mlX3_104 (k_rm_of (by decide) (by decide)) (c2 Γ M0 i0 (12 + b2.toNatClampNeg) (e_farmer Γ hi0 (j_farmer h12) (M0 i0 (12 + b2.toNatClampNeg)))) (v_i hi0 (h_farmer (j_farmer h12))) rfl rfl rfl (Nat.le_of_ble_eq_true rfl) dX3_copyGrainFrom_77 (pc' := 80) rfl (fun r14 M15 => ?_)
      refine k_iinc (v := 1) (q := 2) (lv' := [(0, .ref (Γ.1 i0 0)), (1, .ref (Γ.1 i1 0))]) C dX3_copyGrainFrom_80 rfl (by decide) (by decide) (pc' := 83) rfl (fun _ => rfl) (fun v16 => ?_)
      refine k_goto C (pc' := 57) dX3_copyGrainFrom_83 (by decide) ?_
      refine k_sub [1, 2, 0] rfl ?_
      exact ih M15 v16
def fX3_copyGrainFrom_b26 (i0 : Nat) (i1 : Nat) : Nat → kM2 → Int32 → Option (Int32 × kM2)
  | 0, _, _ => none
  | n + 1, M0, b2 =>
  if (M0 i0 0 5) ≤ b2 then fX3_copyGrainFrom_b57 i0 i1 kFu M0 0 else if ¬ b2 < 0 ∧ b2.toNatClampNeg < 6 then if ¬ b2 < 0 ∧ b2.toNatClampNeg < 6 then bd (fX2_takeFrom M0 i0 ((6 + b2.toNatClampNeg)) i1 ((6 + b2.toNatClampNeg))) fun r19 M20 => k_let (b2 + 1) fun v21 => fX3_copyGrainFrom_b26 i0 i1 n M20 v21 else none else none
set_option maxRecDepth 100000 in
set_option maxHeartbeats 4000000 in
theorem sX3_copyGrainFrom_b26 {l : Launch} {Γ : kG} (hL : k_Lay Γ 314) {p : Program} {e : Env} {R : Room} {s : State} {mid : MethodId} {args : Array Value} {below : List Frame} {meth : Method} {c : Code} (C : k_C Γ p R s mid args meth c cX3_copyGrainFrom 3 RX3 (k_R 1)) (hr : meth.sig.returnType = none) (i0 : Nat) (i1 : Nat) (hi0 : i0 < 7) (hi1 : i1 < 7)  (n : Nat) : ∀ (M0 : kM2) (b2 : Int32), Sm Γ (K2 Γ) p l e R s mid args below meth c 3 false M0 [(0, .ref (Γ.1 i0 0)), (1, .ref (Γ.1 i1 0)), (2, .int b2)] [] 26 (fX3_copyGrainFrom_b26 i0 i1 n M0 b2) := by
  induction n with
  | zero => intros; exact k_none
  | succ n ih =>
    intro M0 b2
    unfold fX3_copyGrainFrom_b26
    refine k_iload_n C 2 dX3_copyGrainFrom_26 rfl rfl (pc' := 27) rfl ?_
    refine k_aload_n C 0 dX3_copyGrainFrom_27 rfl rfl (pc' := 28) rfl ?_
    refine k_getf C 5 (c2 Γ M0 i0 0 (e_mill Γ hi0 (M0 i0 0))) (v_i hi0 (by decide)) flX3_91 (v := .int (M0 i0 0 5)) rfl dX3_copyGrainFrom_28 (pc' := 31) rfl ?_
    refine k_ic_ge C (tgt := 55) dX3_copyGrainFrom_31 (by decide) (pc' := 34) rfl (fun h4 => ?_) (fun h4 => ?_)
    · refine k_iconst C (v := 0) dX3_copyGrainFrom_55 (by decide) (pc' := 56) rfl ?_
      refine k_istore_n C (lv' := [(2, .int 0), (0, .ref (Γ.1 i0 0)), (1, .ref (Γ.1 i1 0))]) dX3_copyGrainFrom_56 rfl (by decide) rfl (pc' := 57) rfl ?_
      refine k_sub [1, 2, 0] rfl ?_
      exact sX3_copyGrainFrom_b57 hL C hr i0 i1 hi0 hi1 kFu M0 0
    · refine k_aload_n C 0 dX3_copyGrainFrom_34 rfl rfl (pc' := 35) rfl ?_
      refine k_getf C 2 (c2 Γ M0 i0 0 (e_mill Γ hi0 (M0 i0 0))) (v_i hi0 (by decide)) flX3_31 (v := .ref (Γ.1 i0 3)) rfl dX3_copyGrainFrom_35 (pc' := 38) rfl ?_
      refine k_iload_n C 2 dX3_copyGrainFrom_38 rfl rfl (pc' := 39) rfl ?_
      refine k_aald C 2 (c2 Γ M0 i0 3 (e_kinds Γ hi0 (M0 i0 3))) (v_i hi0 (by decide)) rfl (b := Γ.1 i0 (6 + b2.toNatClampNeg)) rfl dX3_copyGrainFrom_39 (pc' := 40) rfl (fun h17 => ?_)
      refine k_aload_n C 1 dX3_copyGrainFrom_40 rfl rfl (pc' := 41) rfl ?_
      refine k_getf C 2 (c2 Γ M0 i1 0 (e_mill Γ hi1 (M0 i1 0))) (v_i hi1 (by decide)) flX3_31 (v := .ref (Γ.1 i1 3)) rfl dX3_copyGrainFrom_41 (pc' := 44) rfl ?_
      refine k_iload_n C 2 dX3_copyGrainFrom_44 rfl rfl (pc' := 45) rfl ?_
      refine k_aald C 2 (c2 Γ M0 i1 3 (e_kinds Γ hi1 (M0 i1 3))) (v_i hi1 (by decide)) rfl (b := Γ.1 i1 (6 + b2.toNatClampNeg)) rfl dX3_copyGrainFrom_45 (pc' := 46) rfl (fun h18 => ?_)
      refine k_callVv C (rest := []) (qX2_takeFrom l Γ hL M0 i0 ((6 + b2.toNatClampNeg)) i1 ((6 + b2.toNatClampNeg)) hi0 (j_kind h17) hi1 (j_kind h18)) mwX2_takeFrom iwX2_takeFrom mlX3_100 (k_rm_of (by decide) (by decide)) (c2 Γ M0 i0 (6 + b2.toNatClampNeg) (e_kind Γ hi0 (j_kind h17) (M0 i0 (6 + b2.toNatClampNeg)))) (v_i hi0 (h_kind (j_kind h17))) rfl rfl rfl (Nat.le_of_ble_eq_true rfl) dX3_copyGrainFrom_46 (pc' := 49) rfl (fun r19 M20 => ?_)
      refine k_iinc (v := 1) (q := 2) (lv' := [(0, .ref (Γ.1 i0 0)), (1, .ref (Γ.1 i1 0))]) C dX3_copyGrainFrom_49 rfl (by decide) (by decide) (pc' := 52) rfl (fun _ => rfl) (fun v21 => ?_)
      refine k_goto C (pc' := 26) dX3_copyGrainFrom_52 (by decide) ?_
      refine k_sub [1, 2, 0] rfl ?_
      exact ih M20 v21
def fX3_copyGrainFrom (M0 : kM2) (i0 : Nat) (i1 : Nat) : Option (Int32 × kM2) :=
  k_let (mw M0 i0 0 5 (M0 i1 0 5)) fun M1 => k_let (mw M1 i0 0 6 (M1 i1 0 6)) fun M2 => k_let (mw M2 i0 0 7 (M2 i1 0 7)) fun M3 => fX3_copyGrainFrom_b26 i0 i1 kFu M3 0
set_option maxRecDepth 100000 in
set_option maxHeartbeats 4000000 in
theorem qX3_copyGrainFrom (l : Launch) (Γ : kG) (hL : k_Lay Γ 314) (M0 : kM2) (i0 : Nat) (i1 : Nat) (hi0 : i0 < 7) (hi1 : i1 < 7) : CT l Γ (K2 Γ) yX3_copyGrainFrom cX3_copyGrainFrom 3 none (k_R 1) [.ref (Γ.1 i0 0), .ref (Γ.1 i1 0)] M0 (fX3_copyGrainFrom M0 i0 i1) := by
  refine k_meth (own := RX3) (by decide) rfl (Nat.le_of_ble_eq_true rfl) (fun p e R s mid args below meth c C hr => ?_)
  show Sm Γ (K2 Γ) p l e R s mid args below meth c 3 false M0 [(0, .ref (Γ.1 i0 0)), (1, .ref (Γ.1 i1 0))] [] 0 (fX3_copyGrainFrom M0 i0 i1)
  unfold fX3_copyGrainFrom
  refine k_aload_n C 0 dX3_copyGrainFrom_0 rfl rfl (pc' := 1) rfl ?_
  refine k_aload_n C 1 dX3_copyGrainFrom_1 rfl rfl (pc' := 2) rfl ?_
  refine k_getf C 5 (c2 Γ M0 i1 0 (e_mill Γ hi1 (M0 i1 0))) (v_i hi1 (by decide)) flX3_91 (v := .int (M0 i1 0 5)) rfl dX3_copyGrainFrom_2 (pc' := 5) rfl ?_
  refine k_putf C hL.k2 5 (c2 Γ M0 i0 0 (e_mill Γ hi0 (M0 i0 0))) (v_i hi0 (by decide)) flX3_91 fpX3_5 (Nat.le_of_ble_eq_true rfl) (s2 Γ M0 i0 0 5 (M0 i1 0 5) ((e_mill Γ hi0 _).trans (congrArg (fun z => Sum.inr (3, z)) (f_mill Γ i0 (M0 i0 0) (M0 i1 0 5) 5 (by decide))))) dX3_copyGrainFrom_5 (pc' := 8) rfl (fun M1 => ?_)
  refine k_aload_n C 0 dX3_copyGrainFrom_8 rfl rfl (pc' := 9) rfl ?_
  refine k_aload_n C 1 dX3_copyGrainFrom_9 rfl rfl (pc' := 10) rfl ?_
  refine k_getf C 6 (c2 Γ M1 i1 0 (e_mill Γ hi1 (M1 i1 0))) (v_i hi1 (by decide)) flX3_94 (v := .int (M1 i1 0 6)) rfl dX3_copyGrainFrom_10 (pc' := 13) rfl ?_
  refine k_putf C hL.k2 6 (c2 Γ M1 i0 0 (e_mill Γ hi0 (M1 i0 0))) (v_i hi0 (by decide)) flX3_94 fpX3_6 (Nat.le_of_ble_eq_true rfl) (s2 Γ M1 i0 0 6 (M1 i1 0 6) ((e_mill Γ hi0 _).trans (congrArg (fun z => Sum.inr (3, z)) (f_mill Γ i0 (M1 i0 0) (M1 i1 0 6) 6 (by decide))))) dX3_copyGrainFrom_13 (pc' := 16) rfl (fun M2 => ?_)
  refine k_aload_n C 0 dX3_copyGrainFrom_16 rfl rfl (pc' := 17) rfl ?_
  refine k_aload_n C 1 dX3_copyGrainFrom_17 rfl rfl (pc' := 18) rfl ?_
  refine k_getf C 7 (c2 Γ M2 i1 0 (e_mill Γ hi1 (M2 i1 0))) (v_i hi1 (by decide)) flX3_97 (v := .int (M2 i1 0 7)) rfl dX3_copyGrainFrom_18 (pc' := 21) rfl ?_
  refine k_putf C hL.k2 7 (c2 Γ M2 i0 0 (e_mill Γ hi0 (M2 i0 0))) (v_i hi0 (by decide)) flX3_97 fpX3_7 (Nat.le_of_ble_eq_true rfl) (s2 Γ M2 i0 0 7 (M2 i1 0 7) ((e_mill Γ hi0 _).trans (congrArg (fun z => Sum.inr (3, z)) (f_mill Γ i0 (M2 i0 0) (M2 i1 0 7) 7 (by decide))))) dX3_copyGrainFrom_21 (pc' := 24) rfl (fun M3 => ?_)
  refine k_iconst C (v := 0) dX3_copyGrainFrom_24 (by decide) (pc' := 25) rfl ?_
  refine k_istore_n C (lv' := [(2, .int 0), (0, .ref (Γ.1 i0 0)), (1, .ref (Γ.1 i1 0))]) dX3_copyGrainFrom_25 rfl (by decide) rfl (pc' := 26) rfl ?_
  refine k_sub [1, 2, 0] rfl ?_
  exact sX3_copyGrainFrom_b26 hL C hr i0 i1 hi0 hi1 kFu M3 0
def fX3_copyFrom (M0 : kM2) (i0 : Nat) (i1 : Nat) : Option (Int32 × kM2) :=
  k_let (k_cp M0 i0 i1 1 13) fun M1 => k_let (k_cp M1 i0 i1 2 4) fun M2 => bd (fX3_copyGrainFrom M2 i0 i1) fun r3 M4 => k_let (mw M4 i0 0 8 (M4 i1 0 8)) fun M5 => k_let (mw M5 i0 0 9 (M5 i1 0 9)) fun M6 => k_let (mw M6 i0 0 10 (M6 i1 0 10)) fun M7 => k_let (mw M7 i0 0 11 (M7 i1 0 11)) fun M8 => k_let (mw M8 i0 0 12 (M8 i1 0 12)) fun M9 => k_let (mw M9 i0 0 13 (M9 i1 0 13)) fun M10 => k_let (mw M10 i0 0 14 (M10 i1 0 14)) fun M11 => k_let (mw M11 i0 0 15 (M11 i1 0 15)) fun M12 => k_let (mw M12 i0 0 16 (M12 i1 0 16)) fun M13 => k_let (mw M13 i0 0 17 (M13 i1 0 17)) fun M14 => some (0, M14)
set_option maxRecDepth 100000 in
set_option maxHeartbeats 4000000 in
theorem qX3_copyFrom (l : Launch) (Γ : kG) (hL : k_Lay Γ 314) (M0 : kM2) (i0 : Nat) (i1 : Nat) (hi0 : i0 < 7) (hi1 : i1 < 7) : CT l Γ (K2 Γ) yX3_copyFrom cX3_copyFrom 2 none (k_R 2) [.ref (Γ.1 i0 0), .ref (Γ.1 i1 0)] M0 (fX3_copyFrom M0 i0 i1) := by
  refine k_meth (own := RX3) (by decide) rfl (Nat.le_of_ble_eq_true rfl) (fun p e R s mid args below meth c C hr => ?_)
  show Sm Γ (K2 Γ) p l e R s mid args below meth c 2 false M0 [(0, .ref (Γ.1 i0 0)), (1, .ref (Γ.1 i1 0))] [] 0 (fX3_copyFrom M0 i0 i1)
  unfold fX3_copyFrom
  refine k_aload_n C 1 dX3_copyFrom_0 rfl rfl (pc' := 1) rfl ?_
  refine k_getf C 0 (c2 Γ M0 i1 0 (e_mill Γ hi1 (M0 i1 0))) (v_i hi1 (by decide)) flX3_18 (v := .ref (Γ.1 i1 1)) rfl dX3_copyFrom_1 (pc' := 4) rfl ?_
  refine k_iconst C (v := 0) dX3_copyFrom_4 (by decide) (pc' := 5) rfl ?_
  refine k_aload_n C 0 dX3_copyFrom_5 rfl rfl (pc' := 6) rfl ?_
  refine k_getf C 0 (c2 Γ M0 i0 0 (e_mill Γ hi0 (M0 i0 0))) (v_i hi0 (by decide)) flX3_18 (v := .ref (Γ.1 i0 1)) rfl dX3_copyFrom_6 (pc' := 9) rfl ?_
  refine k_iconst C (v := 0) dX3_copyFrom_9 (by decide) (pc' := 10) rfl ?_
  refine k_bipush C (v := 13) dX3_copyFrom_10 (by decide) (pc' := 12) rfl ?_
  refine k_copy2 C hL dX3_copyFrom_12 hi1 hi0 (by decide) (fun r => e_sets Γ hi1 r) (fun r => e_sets Γ hi0 r) ⟨Nat.le_of_ble_eq_true rfl, Nat.le_of_ble_eq_true rfl⟩ (pc' := 15) rfl (fun M1 => ?_)
  refine k_aload_n C 1 dX3_copyFrom_15 rfl rfl (pc' := 16) rfl ?_
  refine k_getf C 1 (c2 Γ M1 i1 0 (e_mill Γ hi1 (M1 i1 0))) (v_i hi1 (by decide)) flX3_26 (v := .ref (Γ.1 i1 2)) rfl dX3_copyFrom_16 (pc' := 19) rfl ?_
  refine k_iconst C (v := 0) dX3_copyFrom_19 (by decide) (pc' := 20) rfl ?_
  refine k_aload_n C 0 dX3_copyFrom_20 rfl rfl (pc' := 21) rfl ?_
  refine k_getf C 1 (c2 Γ M1 i0 0 (e_mill Γ hi0 (M1 i0 0))) (v_i hi0 (by decide)) flX3_26 (v := .ref (Γ.1 i0 2)) rfl dX3_copyFrom_21 (pc' := 24) rfl ?_
  refine k_iconst C (v := 0) dX3_copyFrom_24 (by decide) (pc' := 25) rfl ?_
  refine k_iconst C (v := 4) dX3_copyFrom_25 (by decide) (pc' := 26) rfl ?_
  refine k_copy2 C hL dX3_copyFrom_26 hi1 hi0 (by decide) (fun r => e_leaks Γ hi1 r) (fun r => e_leaks Γ hi0 r) ⟨Nat.le_of_ble_eq_true rfl, Nat.le_of_ble_eq_true rfl⟩ (pc' := 29) rfl (fun M2 => ?_)
  refine k_aload_n C 0 dX3_copyFrom_29 rfl rfl (pc' := 30) rfl ?_
  refine k_aload_n C 1 dX3_copyFrom_30 rfl rfl (pc' := 31) rfl ?_
  refine k_callVv C (rest := []) (qX3_copyGrainFrom l Γ hL M2 i0 i1 hi0 hi1) mwX3_copyGrainFrom iwX3_copyGrainFrom mlX3_63 (k_rm_of (by decide) (by decide)) (c2 Γ M2 i0 0 (e_mill Γ hi0 (M2 i0 0))) (v_i hi0 (by decide)) rfl rfl rfl (Nat.le_of_ble_eq_true rfl) dX3_copyFrom_31 (pc' := 34) rfl (fun r3 M4 => ?_)
  refine k_aload_n C 0 dX3_copyFrom_34 rfl rfl (pc' := 35) rfl ?_
  refine k_aload_n C 1 dX3_copyFrom_35 rfl rfl (pc' := 36) rfl ?_
  refine k_getf C 8 (c2 Γ M4 i1 0 (e_mill Γ hi1 (M4 i1 0))) (v_i hi1 (by decide)) flX3_67 (v := .int (M4 i1 0 8)) rfl dX3_copyFrom_36 (pc' := 39) rfl ?_
  refine k_putf C hL.k2 8 (c2 Γ M4 i0 0 (e_mill Γ hi0 (M4 i0 0))) (v_i hi0 (by decide)) flX3_67 fpX3_8 (Nat.le_of_ble_eq_true rfl) (s2 Γ M4 i0 0 8 (M4 i1 0 8) ((e_mill Γ hi0 _).trans (congrArg (fun z => Sum.inr (3, z)) (f_mill Γ i0 (M4 i0 0) (M4 i1 0 8) 8 (by decide))))) dX3_copyFrom_39 (pc' := 42) rfl (fun M5 => ?_)
  refine k_aload_n C 0 dX3_copyFrom_42 rfl rfl (pc' := 43) rfl ?_
  refine k_aload_n C 1 dX3_copyFrom_43 rfl rfl (pc' := 44) rfl ?_
  refine k_getf C 9 (c2 Γ M5 i1 0 (e_mill Γ hi1 (M5 i1 0))) (v_i hi1 (by decide)) flX3_70 (v := .int (M5 i1 0 9)) rfl dX3_copyFrom_44 (pc' := 47) rfl ?_
  refine k_putf C hL.k2 9 (c2 Γ M5 i0 0 (e_mill Γ hi0 (M5 i0 0))) (v_i hi0 (by decide)) flX3_70 fpX3_9 (Nat.le_of_ble_eq_true rfl) (s2 Γ M5 i0 0 9 (M5 i1 0 9) ((e_mill Γ hi0 _).trans (congrArg (fun z => Sum.inr (3, z)) (f_mill Γ i0 (M5 i0 0) (M5 i1 0 9) 9 (by decide))))) dX3_copyFrom_47 (pc' := 50) rfl (fun M6 => ?_)
  refine k_aload_n C 0 dX3_copyFrom_50 rfl rfl (pc' := 51) rfl ?_
  refine k_aload_n C 1 dX3_copyFrom_51 rfl rfl (pc' := 52) rfl ?_
  refine k_getf C 10 (c2 Γ M6 i1 0 (e_mill Γ hi1 (M6 i1 0))) (v_i hi1 (by decide)) flX3_73 (v := .int (M6 i1 0 10)) rfl dX3_copyFrom_52 (pc' := 55) rfl ?_
  refine k_putf C hL.k2 10 (c2 Γ M6 i0 0 (e_mill Γ hi0 (M6 i0 0))) (v_i hi0 (by decide)) flX3_73 fpX3_10 (Nat.le_of_ble_eq_true rfl) (s2 Γ M6 i0 0 10 (M6 i1 0 10) ((e_mill Γ hi0 _).trans (congrArg (fun z => Sum.inr (3, z)) (f_mill Γ i0 (M6 i0 0) (M6 i1 0 10) 10 (by decide))))) dX3_copyFrom_55 (pc' := 58) rfl (fun M7 => ?_)
  refine k_aload_n C 0 dX3_copyFrom_58 rfl rfl (pc' := 59) rfl ?_
  refine k_aload_n C 1 dX3_copyFrom_59 rfl rfl (pc' := 60) rfl ?_
  refine k_getf C 11 (c2 Γ M7 i1 0 (e_mill Γ hi1 (M7 i1 0))) (v_i hi1 (by decide)) flX3_76 (v := .int (M7 i1 0 11)) rfl dX3_copyFrom_60 (pc' := 63) rfl ?_
  refine k_putf C hL.k2 11 (c2 Γ M7 i0 0 (e_mill Γ hi0 (M7 i0 0))) (v_i hi0 (by decide)) flX3_76 fpX3_11 (Nat.le_of_ble_eq_true rfl) (s2 Γ M7 i0 0 11 (M7 i1 0 11) ((e_mill Γ hi0 _).trans (congrArg (fun z => Sum.inr (3, z)) (f_mill Γ i0 (M7 i0 0) (M7 i1 0 11) 11 (by decide))))) dX3_copyFrom_63 (pc' := 66) rfl (fun M8 => ?_)
  refine k_aload_n C 0 dX3_copyFrom_66 rfl rfl (pc' := 67) rfl ?_
  refine k_aload_n C 1 dX3_copyFrom_67 rfl rfl (pc' := 68) rfl ?_
  refine k_getf C 12 (c2 Γ M8 i1 0 (e_mill Γ hi1 (M8 i1 0))) (v_i hi1 (by decide)) flX3_47 (v := .int (M8 i1 0 12)) rfl dX3_copyFrom_68 (pc' := 71) rfl ?_
  refine k_putf C hL.k2 12 (c2 Γ M8 i0 0 (e_mill Γ hi0 (M8 i0 0))) (v_i hi0 (by decide)) flX3_47 fpX3_12 (Nat.le_of_ble_eq_true rfl) (s2 Γ M8 i0 0 12 (M8 i1 0 12) ((e_mill Γ hi0 _).trans (congrArg (fun z => Sum.inr (3, z)) (f_mill Γ i0 (M8 i0 0) (M8 i1 0 12) 12 (by decide))))) dX3_copyFrom_71 (pc' := 74) rfl (fun M9 => ?_)
  refine k_aload_n C 0 dX3_copyFrom_74 rfl rfl (pc' := 75) rfl ?_
  refine k_aload_n C 1 dX3_copyFrom_75 rfl rfl (pc' := 76) rfl ?_
  refine k_getf C 13 (c2 Γ M9 i1 0 (e_mill Γ hi1 (M9 i1 0))) (v_i hi1 (by decide)) flX3_51 (v := .int (M9 i1 0 13)) rfl dX3_copyFrom_76 (pc' := 79) rfl ?_
  refine k_putf C hL.k2 13 (c2 Γ M9 i0 0 (e_mill Γ hi0 (M9 i0 0))) (v_i hi0 (by decide)) flX3_51 fpX3_13 (Nat.le_of_ble_eq_true rfl) (s2 Γ M9 i0 0 13 (M9 i1 0 13) ((e_mill Γ hi0 _).trans (congrArg (fun z => Sum.inr (3, z)) (f_mill Γ i0 (M9 i0 0) (M9 i1 0 13) 13 (by decide))))) dX3_copyFrom_79 (pc' := 82) rfl (fun M10 => ?_)
  refine k_aload_n C 0 dX3_copyFrom_82 rfl rfl (pc' := 83) rfl ?_
  refine k_aload_n C 1 dX3_copyFrom_83 rfl rfl (pc' := 84) rfl ?_
  refine k_getf C 14 (c2 Γ M10 i1 0 (e_mill Γ hi1 (M10 i1 0))) (v_i hi1 (by decide)) flX3_79 (v := .int (M10 i1 0 14)) rfl dX3_copyFrom_84 (pc' := 87) rfl ?_
  refine k_putf C hL.k2 14 (c2 Γ M10 i0 0 (e_mill Γ hi0 (M10 i0 0))) (v_i hi0 (by decide)) flX3_79 fpX3_14 (Nat.le_of_ble_eq_true rfl) (s2 Γ M10 i0 0 14 (M10 i1 0 14) ((e_mill Γ hi0 _).trans (congrArg (fun z => Sum.inr (3, z)) (f_mill Γ i0 (M10 i0 0) (M10 i1 0 14) 14 (by decide))))) dX3_copyFrom_87 (pc' := 90) rfl (fun M11 => ?_)
  refine k_aload_n C 0 dX3_copyFrom_90 rfl rfl (pc' := 91) rfl ?_
  refine k_aload_n C 1 dX3_copyFrom_91 rfl rfl (pc' := 92) rfl ?_
  refine k_getf C 15 (c2 Γ M11 i1 0 (e_mill Γ hi1 (M11 i1 0))) (v_i hi1 (by decide)) flX3_82 (v := .int (M11 i1 0 15)) rfl dX3_copyFrom_92 (pc' := 95) rfl ?_
  refine k_putf C hL.k2 15 (c2 Γ M11 i0 0 (e_mill Γ hi0 (M11 i0 0))) (v_i hi0 (by decide)) flX3_82 fpX3_15 (Nat.le_of_ble_eq_true rfl) (s2 Γ M11 i0 0 15 (M11 i1 0 15) ((e_mill Γ hi0 _).trans (congrArg (fun z => Sum.inr (3, z)) (f_mill Γ i0 (M11 i0 0) (M11 i1 0 15) 15 (by decide))))) dX3_copyFrom_95 (pc' := 98) rfl (fun M12 => ?_)
  refine k_aload_n C 0 dX3_copyFrom_98 rfl rfl (pc' := 99) rfl ?_
  refine k_aload_n C 1 dX3_copyFrom_99 rfl rfl (pc' := 100) rfl ?_
  refine k_getf C 16 (c2 Γ M12 i1 0 (e_mill Γ hi1 (M12 i1 0))) (v_i hi1 (by decide)) flX3_85 (v := .int (M12 i1 0 16)) rfl dX3_copyFrom_100 (pc' := 103) rfl ?_
  refine k_putf C hL.k2 16 (c2 Γ M12 i0 0 (e_mill Γ hi0 (M12 i0 0))) (v_i hi0 (by decide)) flX3_85 fpX3_16 (Nat.le_of_ble_eq_true rfl) (s2 Γ M12 i0 0 16 (M12 i1 0 16) ((e_mill Γ hi0 _).trans (congrArg (fun z => Sum.inr (3, z)) (f_mill Γ i0 (M12 i0 0) (M12 i1 0 16) 16 (by decide))))) dX3_copyFrom_103 (pc' := 106) rfl (fun M13 => ?_)
  refine k_aload_n C 0 dX3_copyFrom_106 rfl rfl (pc' := 107) rfl ?_
  refine k_aload_n C 1 dX3_copyFrom_107 rfl rfl (pc' := 108) rfl ?_
  refine k_getf C 17 (c2 Γ M13 i1 0 (e_mill Γ hi1 (M13 i1 0))) (v_i hi1 (by decide)) flX3_88 (v := .int (M13 i1 0 17)) rfl dX3_copyFrom_108 (pc' := 111) rfl ?_
  refine k_putf C hL.k2 17 (c2 Γ M13 i0 0 (e_mill Γ hi0 (M13 i0 0))) (v_i hi0 (by decide)) flX3_88 fpX3_17 (Nat.le_of_ble_eq_true rfl) (s2 Γ M13 i0 0 17 (M13 i1 0 17) ((e_mill Γ hi0 _).trans (congrArg (fun z => Sum.inr (3, z)) (f_mill Γ i0 (M13 i0 0) (M13 i1 0 17) 17 (by decide))))) dX3_copyFrom_111 (pc' := 114) rfl (fun M14 => ?_)
  exact k_retv C rfl hr dX3_copyFrom_114
def fX3_hasKind (m0 : kM1) (a1 : Int32) : Option (Int32 × kM1) :=
  if a1 < 0 then some (0, m0) else if (m0 0 5) ≤ a1 then some (0, m0) else some (1, m0)
set_option maxRecDepth 100000 in
set_option maxHeartbeats 4000000 in
theorem qX3_hasKind (l : Launch) (Γ : kG) (hL : k_Lay Γ 314) (M : kM2) (i : Nat) (hi : i < 7) (m0 : kM1) (a1 : Int32) : CT l Γ (K1 Γ M i) yX3_hasKind cX3_hasKind 2 (some .boolean) (k_R 0) [.ref (Γ.1 i 0), .int a1] m0 (fX3_hasKind m0 a1) := by
  refine k_meth (own := RX3) (by decide) rfl (Nat.le_of_ble_eq_true rfl) (fun p e R s mid args below meth c C hr => ?_)
  show Sm Γ (K1 Γ M i) p l e R s mid args below meth c 2 true m0 [(0, .ref (Γ.1 i 0)), (1, .int a1)] [] 0 (fX3_hasKind m0 a1)
  unfold fX3_hasKind
  refine k_iload_n C 1 dX3_hasKind_0 rfl rfl (pc' := 1) rfl ?_
  refine k_if_lt C (tgt := 16) dX3_hasKind_1 (by decide) (pc' := 4) rfl (fun h1 => ?_) (fun h1 => ?_)
  · refine k_iconst C (v := 0) dX3_hasKind_16 (by decide) (pc' := 17) rfl ?_
    exact k_retz C rfl hr (Or.inl rfl) dX3_hasKind_17
  · refine k_iload_n C 1 dX3_hasKind_4 rfl rfl (pc' := 5) rfl ?_
    refine k_aload_n C 0 dX3_hasKind_5 rfl rfl (pc' := 6) rfl ?_
    refine k_getf C 5 (c1 Γ M i m0 0 (e_mill Γ hi (m0 0))) (v_i hi (by decide)) flX3_91 (v := .int (m0 0 5)) rfl dX3_hasKind_6 (pc' := 9) rfl ?_
    refine k_ic_ge C (tgt := 16) dX3_hasKind_9 (by decide) (pc' := 12) rfl (fun h2 => ?_) (fun h2 => ?_)
    · refine k_iconst C (v := 0) dX3_hasKind_16 (by decide) (pc' := 17) rfl ?_
      exact k_retz C rfl hr (Or.inl rfl) dX3_hasKind_17
    · refine k_iconst C (v := 1) dX3_hasKind_12 (by decide) (pc' := 13) rfl ?_
      refine k_goto C (pc' := 17) dX3_hasKind_13 (by decide) ?_
      exact k_retz C rfl hr (Or.inr rfl) dX3_hasKind_17
def fX3_hasFarmer (m0 : kM1) (a1 : Int32) : Option (Int32 × kM1) :=
  if a1 < 0 then some (0, m0) else if (m0 0 6) ≤ a1 then some (0, m0) else some (1, m0)
set_option maxRecDepth 100000 in
set_option maxHeartbeats 4000000 in
theorem qX3_hasFarmer (l : Launch) (Γ : kG) (hL : k_Lay Γ 314) (M : kM2) (i : Nat) (hi : i < 7) (m0 : kM1) (a1 : Int32) : CT l Γ (K1 Γ M i) yX3_hasFarmer cX3_hasFarmer 2 (some .boolean) (k_R 0) [.ref (Γ.1 i 0), .int a1] m0 (fX3_hasFarmer m0 a1) := by
  refine k_meth (own := RX3) (by decide) rfl (Nat.le_of_ble_eq_true rfl) (fun p e R s mid args below meth c C hr => ?_)
  show Sm Γ (K1 Γ M i) p l e R s mid args below meth c 2 true m0 [(0, .ref (Γ.1 i 0)), (1, .int a1)] [] 0 (fX3_hasFarmer m0 a1)
  unfold fX3_hasFarmer
  refine k_iload_n C 1 dX3_hasFarmer_0 rfl rfl (pc' := 1) rfl ?_
  refine k_if_lt C (tgt := 16) dX3_hasFarmer_1 (by decide) (pc' := 4) rfl (fun h1 => ?_) (fun h1 => ?_)
  · refine k_iconst C (v := 0) dX3_hasFarmer_16 (by decide) (pc' := 17) rfl ?_
    exact k_retz C rfl hr (Or.inl rfl) dX3_hasFarmer_17
  · refine k_iload_n C 1 dX3_hasFarmer_4 rfl rfl (pc' := 5) rfl ?_
    refine k_aload_n C 0 dX3_hasFarmer_5 rfl rfl (pc' := 6) rfl ?_
    refine k_getf C 6 (c1 Γ M i m0 0 (e_mill Γ hi (m0 0))) (v_i hi (by decide)) flX3_94 (v := .int (m0 0 6)) rfl dX3_hasFarmer_6 (pc' := 9) rfl ?_
    refine k_ic_ge C (tgt := 16) dX3_hasFarmer_9 (by decide) (pc' := 12) rfl (fun h2 => ?_) (fun h2 => ?_)
    · refine k_iconst C (v := 0) dX3_hasFarmer_16 (by decide) (pc' := 17) rfl ?_
      exact k_retz C rfl hr (Or.inl rfl) dX3_hasFarmer_17
    · refine k_iconst C (v := 1) dX3_hasFarmer_12 (by decide) (pc' := 13) rfl ?_
      refine k_goto C (pc' := 17) dX3_hasFarmer_13 (by decide) ?_
      exact k_retz C rfl hr (Or.inr rfl) dX3_hasFarmer_17
def fX3_hasSack (m0 : kM1) (a1 : Int32) : Option (Int32 × kM1) :=
  if a1 < 0 then some (0, m0) else if (m0 0 7) ≤ a1 then some (0, m0) else some (1, m0)
set_option maxRecDepth 100000 in
set_option maxHeartbeats 4000000 in
theorem qX3_hasSack (l : Launch) (Γ : kG) (hL : k_Lay Γ 314) (M : kM2) (i : Nat) (hi : i < 7) (m0 : kM1) (a1 : Int32) : CT l Γ (K1 Γ M i) yX3_hasSack cX3_hasSack 2 (some .boolean) (k_R 0) [.ref (Γ.1 i 0), .int a1] m0 (fX3_hasSack m0 a1) := by
  refine k_meth (own := RX3) (by decide) rfl (Nat.le_of_ble_eq_true rfl) (fun p e R s mid args below meth c C hr => ?_)
  show Sm Γ (K1 Γ M i) p l e R s mid args below meth c 2 true m0 [(0, .ref (Γ.1 i 0)), (1, .int a1)] [] 0 (fX3_hasSack m0 a1)
  unfold fX3_hasSack
  refine k_iload_n C 1 dX3_hasSack_0 rfl rfl (pc' := 1) rfl ?_
  refine k_if_lt C (tgt := 16) dX3_hasSack_1 (by decide) (pc' := 4) rfl (fun h1 => ?_) (fun h1 => ?_)
  · refine k_iconst C (v := 0) dX3_hasSack_16 (by decide) (pc' := 17) rfl ?_
    exact k_retz C rfl hr (Or.inl rfl) dX3_hasSack_17
  · refine k_iload_n C 1 dX3_hasSack_4 rfl rfl (pc' := 5) rfl ?_
    refine k_aload_n C 0 dX3_hasSack_5 rfl rfl (pc' := 6) rfl ?_
    refine k_getf C 7 (c1 Γ M i m0 0 (e_mill Γ hi (m0 0))) (v_i hi (by decide)) flX3_97 (v := .int (m0 0 7)) rfl dX3_hasSack_6 (pc' := 9) rfl ?_
    refine k_ic_ge C (tgt := 16) dX3_hasSack_9 (by decide) (pc' := 12) rfl (fun h2 => ?_) (fun h2 => ?_)
    · refine k_iconst C (v := 0) dX3_hasSack_16 (by decide) (pc' := 17) rfl ?_
      exact k_retz C rfl hr (Or.inl rfl) dX3_hasSack_17
    · refine k_iconst C (v := 1) dX3_hasSack_12 (by decide) (pc' := 13) rfl ?_
      refine k_goto C (pc' := 17) dX3_hasSack_13 (by decide) ?_
      exact k_retz C rfl hr (Or.inr rfl) dX3_hasSack_17
def fX3_changeSetting (m0 : kM1) (a1 : Int32) (a2 : Int32) : Option (Int32 × kM1) :=
  bd (fX6_within m0 a1 0 12) fun r1 m2 => if r1 = 0 then some ((-1000001), m2) else if ¬ a1 < 0 ∧ a1.toNatClampNeg < 13 then if ¬ a1 < 0 ∧ a1.toNatClampNeg < 13 then bd (fX6_within m2 a2 (k_least a1.toNatClampNeg) (k_great a1.toNatClampNeg)) fun r10 m11 => if r10 = 0 then some ((-1000001), m11) else if ¬ a1 < 0 ∧ a1.toNatClampNeg < 13 then k_let (m11 1 a1.toNatClampNeg) fun v14 => if ¬ a1 < 0 ∧ a1.toNatClampNeg < 13 then k_let (mu m11 1 a1.toNatClampNeg a2) fun m16 => some (v14, m16) else none else none else none else none
set_option maxRecDepth 100000 in
set_option maxHeartbeats 4000000 in
theorem qX3_changeSetting (l : Launch) (Γ : kG) (hL : k_Lay Γ 314) (M : kM2) (i : Nat) (hi : i < 7) (m0 : kM1) (a1 : Int32) (a2 : Int32) : CT l Γ (K1 Γ M i) yX3_changeSetting cX3_changeSetting 4 (some .int) (k_R 1) [.ref (Γ.1 i 0), .int a1, .int a2] m0 (fX3_changeSetting m0 a1 a2) := by
  refine k_meth (own := RX3) (by decide) rfl (Nat.le_of_ble_eq_true rfl) (fun p e R s mid args below meth c C hr => ?_)
  show Sm Γ (K1 Γ M i) p l e R s mid args below meth c 4 true m0 [(0, .ref (Γ.1 i 0)), (1, .int a1), (2, .int a2)] [] 0 (fX3_changeSetting m0 a1 a2)
  unfold fX3_changeSetting
  refine k_iload_n C 1 dX3_changeSetting_0 rfl rfl (pc' := 1) rfl ?_
  refine k_iconst C (v := 0) dX3_changeSetting_1 (by decide) (pc' := 2) rfl ?_
  refine k_bipush C (v := 12) dX3_changeSetting_2 (by decide) (pc' := 4) rfl ?_
  refine k_callSNi C (rest := []) (qX6_within l Γ (K1 Γ M i) m0 a1 0 12) mwX6_within swX6_within (fun h => h.1) (k_rm_of (by decide) (by decide)) rfl rfl (Nat.le_of_ble_eq_true rfl) dX3_changeSetting_4 (pc' := 7) rfl (fun r1 m2 => ?_)
  refine k_if_eq C (tgt := 27) dX3_changeSetting_7 (by decide) (pc' := 10) rfl (fun h3 => ?_) (fun h3 => ?_)
  · refine k_ldc C (v := (-1000001)) dX3_changeSetting_27 cnX3_120 (pc' := 29) rfl ?_
    exact k_reti C rfl hr dX3_changeSetting_29
  · refine k_iload_n C 2 dX3_changeSetting_10 rfl rfl (pc' := 11) rfl ?_
    refine k_getsL C (fun h => h.2.2.2.1) dX3_changeSetting_11 (pc' := 14) rfl (fun t4 ht5 => ?_)
    refine k_iload_n C 1 dX3_changeSetting_14 rfl rfl (pc' := 15) rfl ?_
    refine k_tald C ht5 dX3_changeSetting_15 (pc' := 16) rfl (fun h6 => ?_)
    refine k_getsG C (fun h => h.2.2.2.2) dX3_changeSetting_16 (pc' := 19) rfl (fun t7 ht8 => ?_)
    refine k_iload_n C 1 dX3_changeSetting_19 rfl rfl (pc' := 20) rfl ?_
    refine k_tald C ht8 dX3_changeSetting_20 (pc' := 21) rfl (fun h9 => ?_)
    refine k_callSNi C (rest := []) (qX6_within l Γ (K1 Γ M i) m2 a2 (k_least a1.toNatClampNeg) (k_great a1.toNatClampNeg)) mwX6_within swX6_within (fun h => h.1) (k_rm_of (by decide) (by decide)) rfl rfl (Nat.le_of_ble_eq_true rfl) dX3_changeSetting_21 (pc' := 24) rfl (fun r10 m11 => ?_)
    refine k_if_ne C (tgt := 30) dX3_changeSetting_24 (by decide) (pc' := 27) rfl (fun h12 => ?_) (fun h12 => ?_)
    · refine k_aload_n C 0 dX3_changeSetting_30 rfl rfl (pc' := 31) rfl ?_
      refine k_getf C 0 (c1 Γ M i m11 0 (e_mill Γ hi (m11 0))) (v_i hi (by decide)) flX3_18 (v := .ref (Γ.1 i 1)) rfl dX3_changeSetting_31 (pc' := 34) rfl ?_
      refine k_iload_n C 1 dX3_changeSetting_34 rfl rfl (pc' := 35) rfl ?_
      refine k_iald C (c1 Γ M i m11 1 (e_sets Γ hi (m11 1))) (v_i hi (by decide)) dX3_changeSetting_35 (pc' := 36) rfl (fun h13 => ?_)
      refine k_topi (fun v14 => ?_)
      refine k_istore_n C (lv' := [(3, .int v14), (0, .ref (Γ.1 i 0)), (1, .int a1), (2, .int a2)]) dX3_changeSetting_36 rfl (by decide) rfl (pc' := 37) rfl ?_
      refine k_aload_n C 1 dX3_changeSetting_37 rfl rfl (pc' := 38) rfl ?_
      refine k_getf C 0 (c1 Γ M i m11 0 (e_mill Γ hi (m11 0))) (v_i hi (by decide)) flX3_18 (v := .ref (Γ.1 i 1)) rfl dX3_changeSetting_38 (pc' := 41) rfl ?_
      refine k_iload_n C 2 dX3_changeSetting_41 rfl rfl (pc' := 42) rfl ?_
      refine k_iload_n C 3 dX3_changeSetting_42 rfl rfl (pc' := 43) rfl ?_
      refine k_iast C (hL.k1 M i) (c1 Γ M i m11 1 (e_sets Γ hi (m11 1))) (v_i hi (by decide)) (s1 Γ M i m11 1 a1.toNatClampNeg a2 (e_sets Γ hi _)) dX3_changeSetting_43 (pc' := 44) rfl (fun h15 m16 => ?_)
      refine k_iload_n C 0 dX3_changeSetting_44 rfl rfl (pc' := 45) rfl ?_
      exact k_reti C rfl hr dX3_changeSetting_45
    · refine k_ldc C (v := (-1000001)) dX3_changeSetting_27 cnX3_120 (pc' := 29) rfl ?_
      exact k_reti C rfl hr dX3_changeSetting_29
end
