section
-- ===== PART A: goes FIRST, ahead of the names: the tables' words, and 'selects' of the private methods out of them =====
/-- a private method of a class that the tables say can be made, by its rows of tables_1 -/
def lw_okq (q : MethodName × Nat) : Prop := (q.1.cls ≠ "java/lang/invoke/MethodHandle" ∧ q.1.cls ≠ "java/lang/invoke/VarHandle") ∧ Cond.instantiable q.1.cls q.2 ∈ tables_1 ∧ Cond.privateMethod q.1 ∈ tables_1 ∧ Cond.instanceMethod q.1 ∈ tables_1
theorem lw_p0 : lw_okq (⟨"LetterStore", "rowAt", "(I)LLetterStore$Row;"⟩, 8) := ⟨⟨by decide +kernel, by decide +kernel⟩, List.mem_of_getElem? (i := 15) (by decide +kernel), List.mem_of_getElem? (i := 403) (by decide +kernel), List.mem_of_getElem? (i := 404) (by decide +kernel)⟩
theorem lw_p1 : lw_okq (⟨"LetterStore", "areLetters", "(LLetterStore$Sheet;III)Z"⟩, 8) := ⟨⟨by decide +kernel, by decide +kernel⟩, List.mem_of_getElem? (i := 15) (by decide +kernel), List.mem_of_getElem? (i := 411) (by decide +kernel), List.mem_of_getElem? (i := 412) (by decide +kernel)⟩
theorem lw_p2 : lw_okq (⟨"LetterStore$Run", "begin", "(LLetterStore$Row;)V"⟩, 19) := ⟨⟨by decide +kernel, by decide +kernel⟩, List.mem_of_getElem? (i := 73) (by decide +kernel), List.mem_of_getElem? (i := 435) (by decide +kernel), List.mem_of_getElem? (i := 436) (by decide +kernel)⟩
theorem lw_p3 : lw_okq (⟨"LetterStore$Run", "settle", "(III)V"⟩, 19) := ⟨⟨by decide +kernel, by decide +kernel⟩, List.mem_of_getElem? (i := 73) (by decide +kernel), List.mem_of_getElem? (i := 439) (by decide +kernel), List.mem_of_getElem? (i := 440) (by decide +kernel)⟩
theorem lw_p4 : lw_okq (⟨"LetterStore$Run", "offerHeld", "(LLetterStore$Row;)V"⟩, 19) := ⟨⟨by decide +kernel, by decide +kernel⟩, List.mem_of_getElem? (i := 73) (by decide +kernel), List.mem_of_getElem? (i := 443) (by decide +kernel), List.mem_of_getElem? (i := 444) (by decide +kernel)⟩
theorem lw_p5 : lw_okq (⟨"LetterStore$Run", "waits", "(I)Z"⟩, 19) := ⟨⟨by decide +kernel, by decide +kernel⟩, List.mem_of_getElem? (i := 73) (by decide +kernel), List.mem_of_getElem? (i := 447) (by decide +kernel), List.mem_of_getElem? (i := 448) (by decide +kernel)⟩
theorem lw_p6 : lw_okq (⟨"LetterStore$Run", "isHalted", "(I)Z"⟩, 19) := ⟨⟨by decide +kernel, by decide +kernel⟩, List.mem_of_getElem? (i := 73) (by decide +kernel), List.mem_of_getElem? (i := 452) (by decide +kernel), List.mem_of_getElem? (i := 453) (by decide +kernel)⟩
theorem lw_p7 : lw_okq (⟨"LetterStore$Run", "nextWaiting", "(LLetterStore$Row;I)I"⟩, 19) := ⟨⟨by decide +kernel, by decide +kernel⟩, List.mem_of_getElem? (i := 73) (by decide +kernel), List.mem_of_getElem? (i := 456) (by decide +kernel), List.mem_of_getElem? (i := 457) (by decide +kernel)⟩
theorem lw_p8 : lw_okq (⟨"LetterStore$Run", "offer", "(I)V"⟩, 19) := ⟨⟨by decide +kernel, by decide +kernel⟩, List.mem_of_getElem? (i := 73) (by decide +kernel), List.mem_of_getElem? (i := 460) (by decide +kernel), List.mem_of_getElem? (i := 461) (by decide +kernel)⟩
theorem lw_p9 : lw_okq (⟨"LetterStore$Run", "admits", "(I)Z"⟩, 19) := ⟨⟨by decide +kernel, by decide +kernel⟩, List.mem_of_getElem? (i := 73) (by decide +kernel), List.mem_of_getElem? (i := 464) (by decide +kernel), List.mem_of_getElem? (i := 465) (by decide +kernel)⟩
theorem lw_p10 : lw_okq (⟨"LetterStore$Run", "pushesOut", "(II)Z"⟩, 19) := ⟨⟨by decide +kernel, by decide +kernel⟩, List.mem_of_getElem? (i := 73) (by decide +kernel), List.mem_of_getElem? (i := 468) (by decide +kernel), List.mem_of_getElem? (i := 469) (by decide +kernel)⟩
theorem lw_p11 : lw_okq (⟨"LetterStore$Run", "hasRoomBeside", "()Z"⟩, 19) := ⟨⟨by decide +kernel, by decide +kernel⟩, List.mem_of_getElem? (i := 73) (by decide +kernel), List.mem_of_getElem? (i := 477) (by decide +kernel), List.mem_of_getElem? (i := 478) (by decide +kernel)⟩
theorem lw_p12 : lw_okq (⟨"LetterStore$Run", "take", "(I)V"⟩, 19) := ⟨⟨by decide +kernel, by decide +kernel⟩, List.mem_of_getElem? (i := 73) (by decide +kernel), List.mem_of_getElem? (i := 484) (by decide +kernel), List.mem_of_getElem? (i := 485) (by decide +kernel)⟩
theorem lw_p13 : lw_okq (⟨"LetterStore$Run", "offerDue", "(LLetterStore$Row;)V"⟩, 19) := ⟨⟨by decide +kernel, by decide +kernel⟩, List.mem_of_getElem? (i := 73) (by decide +kernel), List.mem_of_getElem? (i := 492) (by decide +kernel), List.mem_of_getElem? (i := 493) (by decide +kernel)⟩
theorem lw_p14 : lw_okq (⟨"LetterStore$Run", "sendFirsts", "()V"⟩, 19) := ⟨⟨by decide +kernel, by decide +kernel⟩, List.mem_of_getElem? (i := 73) (by decide +kernel), List.mem_of_getElem? (i := 496) (by decide +kernel), List.mem_of_getElem? (i := 497) (by decide +kernel)⟩
theorem lw_p15 : lw_okq (⟨"LetterStore$Run", "tellStates", "()V"⟩, 19) := ⟨⟨by decide +kernel, by decide +kernel⟩, List.mem_of_getElem? (i := 73) (by decide +kernel), List.mem_of_getElem? (i := 511) (by decide +kernel), List.mem_of_getElem? (i := 512) (by decide +kernel)⟩
def lw_privs_1 : List (MethodName × Nat) := [(⟨"LetterStore", "rowAt", "(I)LLetterStore$Row;"⟩, 8), (⟨"LetterStore", "areLetters", "(LLetterStore$Sheet;III)Z"⟩, 8), (⟨"LetterStore$Run", "begin", "(LLetterStore$Row;)V"⟩, 19), (⟨"LetterStore$Run", "settle", "(III)V"⟩, 19), (⟨"LetterStore$Run", "offerHeld", "(LLetterStore$Row;)V"⟩, 19), (⟨"LetterStore$Run", "waits", "(I)Z"⟩, 19), (⟨"LetterStore$Run", "isHalted", "(I)Z"⟩, 19), (⟨"LetterStore$Run", "nextWaiting", "(LLetterStore$Row;I)I"⟩, 19), (⟨"LetterStore$Run", "offer", "(I)V"⟩, 19), (⟨"LetterStore$Run", "admits", "(I)Z"⟩, 19), (⟨"LetterStore$Run", "pushesOut", "(II)Z"⟩, 19), (⟨"LetterStore$Run", "hasRoomBeside", "()Z"⟩, 19), (⟨"LetterStore$Run", "take", "(I)V"⟩, 19), (⟨"LetterStore$Run", "offerDue", "(LLetterStore$Row;)V"⟩, 19), (⟨"LetterStore$Run", "sendFirsts", "()V"⟩, 19), (⟨"LetterStore$Run", "tellStates", "()V"⟩, 19)]
theorem lw_r1 : ∀ q ∈ lw_privs_1, lw_okq q := List.forall_mem_cons.mpr ⟨lw_p0, List.forall_mem_cons.mpr ⟨lw_p1, List.forall_mem_cons.mpr ⟨lw_p2, List.forall_mem_cons.mpr ⟨lw_p3, List.forall_mem_cons.mpr ⟨lw_p4, List.forall_mem_cons.mpr ⟨lw_p5, List.forall_mem_cons.mpr ⟨lw_p6, List.forall_mem_cons.mpr ⟨lw_p7, List.forall_mem_cons.mpr ⟨lw_p8, List.forall_mem_cons.mpr ⟨lw_p9, List.forall_mem_cons.mpr ⟨lw_p10, List.forall_mem_cons.mpr ⟨lw_p11, List.forall_mem_cons.mpr ⟨lw_p12, List.forall_mem_cons.mpr ⟨lw_p13, List.forall_mem_cons.mpr ⟨lw_p14, List.forall_mem_cons.mpr ⟨lw_p15, fun _ h => absurd h List.not_mem_nil⟩⟩⟩⟩⟩⟩⟩⟩⟩⟩⟩⟩⟩⟩⟩⟩
theorem lw_p16 : lw_okq (⟨"LetterStore$Run", "sendRest", "()V"⟩, 19) := ⟨⟨by decide +kernel, by decide +kernel⟩, List.mem_of_getElem? (i := 73) (by decide +kernel), List.mem_of_getElem? (i := 519) (by decide +kernel), List.mem_of_getElem? (i := 520) (by decide +kernel)⟩
theorem lw_p17 : lw_okq (⟨"LetterStore$Foresight", "pairLettersWithTicks", "(LLetterStore$Row;)V"⟩, 5) := ⟨⟨by decide +kernel, by decide +kernel⟩, List.mem_of_getElem? (i := 163) (by decide +kernel), List.mem_of_getElem? (i := 555) (by decide +kernel), List.mem_of_getElem? (i := 556) (by decide +kernel)⟩
theorem lw_p18 : lw_okq (⟨"LetterStore$Foresight", "popYoungest", "(I)I"⟩, 5) := ⟨⟨by decide +kernel, by decide +kernel⟩, List.mem_of_getElem? (i := 163) (by decide +kernel), List.mem_of_getElem? (i := 559) (by decide +kernel), List.mem_of_getElem? (i := 560) (by decide +kernel)⟩
theorem lw_p19 : lw_okq (⟨"LetterStore$Foresight", "staysAt", "(II)I"⟩, 5) := ⟨⟨by decide +kernel, by decide +kernel⟩, List.mem_of_getElem? (i := 163) (by decide +kernel), List.mem_of_getElem? (i := 564) (by decide +kernel), List.mem_of_getElem? (i := 565) (by decide +kernel)⟩
theorem lw_p20 : lw_okq (⟨"LetterStore$Foresight", "longestStay", "(I)I"⟩, 5) := ⟨⟨by decide +kernel, by decide +kernel⟩, List.mem_of_getElem? (i := 163) (by decide +kernel), List.mem_of_getElem? (i := 568) (by decide +kernel), List.mem_of_getElem? (i := 569) (by decide +kernel)⟩
theorem lw_p21 : lw_okq (⟨"LetterStore$Foresight", "passTick", "(I)I"⟩, 5) := ⟨⟨by decide +kernel, by decide +kernel⟩, List.mem_of_getElem? (i := 163) (by decide +kernel), List.mem_of_getElem? (i := 588) (by decide +kernel), List.mem_of_getElem? (i := 589) (by decide +kernel)⟩
theorem lw_p22 : lw_okq (⟨"LetterStoreModel", "allParts", "()I"⟩, 45) := ⟨⟨by decide +kernel, by decide +kernel⟩, List.mem_of_getElem? (i := 601) (by decide +kernel), List.mem_of_getElem? (i := 751) (by decide +kernel), List.mem_of_getElem? (i := 752) (by decide +kernel)⟩
theorem lw_p23 : lw_okq (⟨"LetterStoreModel", "isLine", "(I)Z"⟩, 45) := ⟨⟨by decide +kernel, by decide +kernel⟩, List.mem_of_getElem? (i := 601) (by decide +kernel), List.mem_of_getElem? (i := 763) (by decide +kernel), List.mem_of_getElem? (i := 764) (by decide +kernel)⟩
theorem lw_p24 : lw_okq (⟨"LetterStoreModel", "isWithin", "(III)Z"⟩, 45) := ⟨⟨by decide +kernel, by decide +kernel⟩, List.mem_of_getElem? (i := 601) (by decide +kernel), List.mem_of_getElem? (i := 806) (by decide +kernel), List.mem_of_getElem? (i := 807) (by decide +kernel)⟩
theorem lw_p25 : lw_okq (⟨"LetterStoreModel", "go", "(IIIZZ)V"⟩, 45) := ⟨⟨by decide +kernel, by decide +kernel⟩, List.mem_of_getElem? (i := 601) (by decide +kernel), List.mem_of_getElem? (i := 829) (by decide +kernel), List.mem_of_getElem? (i := 830) (by decide +kernel)⟩
theorem lw_p26 : lw_okq (⟨"LetterStoreModel", "isLeft", "()Z"⟩, 45) := ⟨⟨by decide +kernel, by decide +kernel⟩, List.mem_of_getElem? (i := 601) (by decide +kernel), List.mem_of_getElem? (i := 833) (by decide +kernel), List.mem_of_getElem? (i := 834) (by decide +kernel)⟩
theorem lw_p27 : lw_okq (⟨"LetterStoreModel", "all", "()I"⟩, 45) := ⟨⟨by decide +kernel, by decide +kernel⟩, List.mem_of_getElem? (i := 601) (by decide +kernel), List.mem_of_getElem? (i := 837) (by decide +kernel), List.mem_of_getElem? (i := 838) (by decide +kernel)⟩
theorem lw_p28 : lw_okq (⟨"LetterStoreModel", "isHeld", "(I)Z"⟩, 45) := ⟨⟨by decide +kernel, by decide +kernel⟩, List.mem_of_getElem? (i := 601) (by decide +kernel), List.mem_of_getElem? (i := 841) (by decide +kernel), List.mem_of_getElem? (i := 842) (by decide +kernel)⟩
theorem lw_p29 : lw_okq (⟨"LetterStoreModel", "senders", "()V"⟩, 45) := ⟨⟨by decide +kernel, by decide +kernel⟩, List.mem_of_getElem? (i := 601) (by decide +kernel), List.mem_of_getElem? (i := 845) (by decide +kernel), List.mem_of_getElem? (i := 846) (by decide +kernel)⟩
theorem lw_p30 : lw_okq (⟨"LetterStoreModel", "waiting", "(I)I"⟩, 45) := ⟨⟨by decide +kernel, by decide +kernel⟩, List.mem_of_getElem? (i := 601) (by decide +kernel), List.mem_of_getElem? (i := 849) (by decide +kernel), List.mem_of_getElem? (i := 850) (by decide +kernel)⟩
theorem lw_p31 : lw_okq (⟨"LetterStoreModel", "comes", "(I)V"⟩, 45) := ⟨⟨by decide +kernel, by decide +kernel⟩, List.mem_of_getElem? (i := 601) (by decide +kernel), List.mem_of_getElem? (i := 853) (by decide +kernel), List.mem_of_getElem? (i := 854) (by decide +kernel)⟩
def lw_privs_2 : List (MethodName × Nat) := [(⟨"LetterStore$Run", "sendRest", "()V"⟩, 19), (⟨"LetterStore$Foresight", "pairLettersWithTicks", "(LLetterStore$Row;)V"⟩, 5), (⟨"LetterStore$Foresight", "popYoungest", "(I)I"⟩, 5), (⟨"LetterStore$Foresight", "staysAt", "(II)I"⟩, 5), (⟨"LetterStore$Foresight", "longestStay", "(I)I"⟩, 5), (⟨"LetterStore$Foresight", "passTick", "(I)I"⟩, 5), (⟨"LetterStoreModel", "allParts", "()I"⟩, 45), (⟨"LetterStoreModel", "isLine", "(I)Z"⟩, 45), (⟨"LetterStoreModel", "isWithin", "(III)Z"⟩, 45), (⟨"LetterStoreModel", "go", "(IIIZZ)V"⟩, 45), (⟨"LetterStoreModel", "isLeft", "()Z"⟩, 45), (⟨"LetterStoreModel", "all", "()I"⟩, 45), (⟨"LetterStoreModel", "isHeld", "(I)Z"⟩, 45), (⟨"LetterStoreModel", "senders", "()V"⟩, 45), (⟨"LetterStoreModel", "waiting", "(I)I"⟩, 45), (⟨"LetterStoreModel", "comes", "(I)V"⟩, 45)]
theorem lw_r2 : ∀ q ∈ lw_privs_2, lw_okq q := List.forall_mem_cons.mpr ⟨lw_p16, List.forall_mem_cons.mpr ⟨lw_p17, List.forall_mem_cons.mpr ⟨lw_p18, List.forall_mem_cons.mpr ⟨lw_p19, List.forall_mem_cons.mpr ⟨lw_p20, List.forall_mem_cons.mpr ⟨lw_p21, List.forall_mem_cons.mpr ⟨lw_p22, List.forall_mem_cons.mpr ⟨lw_p23, List.forall_mem_cons.mpr ⟨lw_p24, List.forall_mem_cons.mpr ⟨lw_p25, List.forall_mem_cons.mpr ⟨lw_p26, List.forall_mem_cons.mpr ⟨lw_p27, List.forall_mem_cons.mpr ⟨lw_p28, List.forall_mem_cons.mpr ⟨lw_p29, List.forall_mem_cons.mpr ⟨lw_p30, List.forall_mem_cons.mpr ⟨lw_p31, fun _ h => absurd h List.not_mem_nil⟩⟩⟩⟩⟩⟩⟩⟩⟩⟩⟩⟩⟩⟩⟩⟩
theorem lw_p32 : lw_okq (⟨"LetterStoreModel", "takes", "(II)Z"⟩, 45) := ⟨⟨by decide +kernel, by decide +kernel⟩, List.mem_of_getElem? (i := 601) (by decide +kernel), List.mem_of_getElem? (i := 857) (by decide +kernel), List.mem_of_getElem? (i := 858) (by decide +kernel)⟩
theorem lw_p33 : lw_okq (⟨"LetterStoreModel", "counted", "()I"⟩, 45) := ⟨⟨by decide +kernel, by decide +kernel⟩, List.mem_of_getElem? (i := 601) (by decide +kernel), List.mem_of_getElem? (i := 861) (by decide +kernel), List.mem_of_getElem? (i := 862) (by decide +kernel)⟩
theorem lw_p34 : lw_okq (⟨"LetterStoreModel", "longest", "()I"⟩, 45) := ⟨⟨by decide +kernel, by decide +kernel⟩, List.mem_of_getElem? (i := 601) (by decide +kernel), List.mem_of_getElem? (i := 865) (by decide +kernel), List.mem_of_getElem? (i := 866) (by decide +kernel)⟩
theorem lw_p35 : lw_okq (⟨"LetterStoreModel", "ends", "(II)V"⟩, 45) := ⟨⟨by decide +kernel, by decide +kernel⟩, List.mem_of_getElem? (i := 601) (by decide +kernel), List.mem_of_getElem? (i := 869) (by decide +kernel), List.mem_of_getElem? (i := 870) (by decide +kernel)⟩
theorem lw_p36 : lw_okq (⟨"LetterStoreModel", "sends", "()V"⟩, 45) := ⟨⟨by decide +kernel, by decide +kernel⟩, List.mem_of_getElem? (i := 601) (by decide +kernel), List.mem_of_getElem? (i := 873) (by decide +kernel), List.mem_of_getElem? (i := 874) (by decide +kernel)⟩
theorem lw_p37 : lw_okq (⟨"LetterStoreModel", "tells", "(Z)V"⟩, 45) := ⟨⟨by decide +kernel, by decide +kernel⟩, List.mem_of_getElem? (i := 601) (by decide +kernel), List.mem_of_getElem? (i := 877) (by decide +kernel), List.mem_of_getElem? (i := 878) (by decide +kernel)⟩
theorem lw_p38 : lw_okq (⟨"LetterStoreModel", "countSent", "()I"⟩, 45) := ⟨⟨by decide +kernel, by decide +kernel⟩, List.mem_of_getElem? (i := 601) (by decide +kernel), List.mem_of_getElem? (i := 881) (by decide +kernel), List.mem_of_getElem? (i := 882) (by decide +kernel)⟩
theorem lw_p39 : lw_okq (⟨"LetterStoreModel", "offer", "(I)V"⟩, 45) := ⟨⟨by decide +kernel, by decide +kernel⟩, List.mem_of_getElem? (i := 601) (by decide +kernel), List.mem_of_getElem? (i := 905) (by decide +kernel), List.mem_of_getElem? (i := 906) (by decide +kernel)⟩
theorem lw_p40 : lw_okq (⟨"LetterStoreModel", "serve", "(I)V"⟩, 45) := ⟨⟨by decide +kernel, by decide +kernel⟩, List.mem_of_getElem? (i := 601) (by decide +kernel), List.mem_of_getElem? (i := 915) (by decide +kernel), List.mem_of_getElem? (i := 916) (by decide +kernel)⟩
theorem lw_p41 : lw_okq (⟨"LetterStoreModel", "leastOf", "(I)I"⟩, 45) := ⟨⟨by decide +kernel, by decide +kernel⟩, List.mem_of_getElem? (i := 601) (by decide +kernel), List.mem_of_getElem? (i := 935) (by decide +kernel), List.mem_of_getElem? (i := 936) (by decide +kernel)⟩
def lw_privs_3 : List (MethodName × Nat) := [(⟨"LetterStoreModel", "takes", "(II)Z"⟩, 45), (⟨"LetterStoreModel", "counted", "()I"⟩, 45), (⟨"LetterStoreModel", "longest", "()I"⟩, 45), (⟨"LetterStoreModel", "ends", "(II)V"⟩, 45), (⟨"LetterStoreModel", "sends", "()V"⟩, 45), (⟨"LetterStoreModel", "tells", "(Z)V"⟩, 45), (⟨"LetterStoreModel", "countSent", "()I"⟩, 45), (⟨"LetterStoreModel", "offer", "(I)V"⟩, 45), (⟨"LetterStoreModel", "serve", "(I)V"⟩, 45), (⟨"LetterStoreModel", "leastOf", "(I)I"⟩, 45)]
theorem lw_r3 : ∀ q ∈ lw_privs_3, lw_okq q := List.forall_mem_cons.mpr ⟨lw_p32, List.forall_mem_cons.mpr ⟨lw_p33, List.forall_mem_cons.mpr ⟨lw_p34, List.forall_mem_cons.mpr ⟨lw_p35, List.forall_mem_cons.mpr ⟨lw_p36, List.forall_mem_cons.mpr ⟨lw_p37, List.forall_mem_cons.mpr ⟨lw_p38, List.forall_mem_cons.mpr ⟨lw_p39, List.forall_mem_cons.mpr ⟨lw_p40, List.forall_mem_cons.mpr ⟨lw_p41, fun _ h => absurd h List.not_mem_nil⟩⟩⟩⟩⟩⟩⟩⟩⟩⟩
def lw_privs : List (MethodName × Nat) := lw_privs_1 ++ (lw_privs_2 ++ (lw_privs_3))
def lw_tbl : List Cond := k2_sels lw_privs ++ tables_1
theorem lw_privs_ok : ∀ q ∈ lw_privs, lw_okq q := by
  show ∀ q ∈ lw_privs_1 ++ (lw_privs_2 ++ (lw_privs_3)), lw_okq q
  exact List.forall_mem_append.mpr ⟨lw_r1, List.forall_mem_append.mpr ⟨lw_r2, lw_r3⟩⟩
end
section
def RX0 : String := "LetterStore$Foresight"
def TX0 : u_T := fun k => match k with
  | 0 => ("LetterStore$Foresight", "setting", "LLetterStore$Setting;", true)
  | 1 => ("LetterStore$Foresight", "leavesAt", "[I", true)
  | 2 => ("LetterStore$Foresight", "below", "[I", true)
  | 3 => ("LetterStore$Foresight", "topOf", "[I", true)
  | _ => ("LetterStore$Foresight", "lengthOf", "[I", true)
def tyX0 : Nat → FieldType := fun k => match k with
  | 0 => .object "LetterStore$Setting"
  | 1 => .array .int
  | 2 => .array .int
  | 3 => .array .int
  | _ => .array .int
theorem nmX0 : ∀ a, a < 5 → ∀ b, b < 5 → a ≠ b → (TX0 a).2.1 ≠ (TX0 b).2.1 := by decide +kernel
theorem tyX0_ok : ∀ k, k < 5 → parseFieldDescriptor (TX0 k).2.2.1 = some (tyX0 k) := by decide +kernel
abbrev cX0_init : ByteArray := prog_2_method_1_code
def yX0_init : MethodName := ⟨RX0, "<init>", "(LLetterStore$Setting;)V"⟩
abbrev cX0_mostTaken : ByteArray := prog_2_method_2_code
def yX0_mostTaken : MethodName := ⟨RX0, "mostTaken", "(LLetterStore$Row;)I"⟩
abbrev cX0_pairLettersWithTicks : ByteArray := prog_2_method_3_code
def yX0_pairLettersWithTicks : MethodName := ⟨RX0, "pairLettersWithTicks", "(LLetterStore$Row;)V"⟩
abbrev cX0_popYoungest : ByteArray := prog_2_method_4_code
def yX0_popYoungest : MethodName := ⟨RX0, "popYoungest", "(I)I"⟩
abbrev cX0_staysAt : ByteArray := prog_2_method_5_code
def yX0_staysAt : MethodName := ⟨RX0, "staysAt", "(II)I"⟩
abbrev cX0_longestStay : ByteArray := prog_2_method_6_code
def yX0_longestStay : MethodName := ⟨RX0, "longestStay", "(I)I"⟩
abbrev cX0_leastShare : ByteArray := prog_2_method_7_code
def yX0_leastShare : MethodName := ⟨RX0, "leastShare", "(LLetterStore$Row;)I"⟩
abbrev cX0_shareToTake : ByteArray := prog_2_method_8_code
def yX0_shareToTake : MethodName := ⟨RX0, "shareToTake", "(II)I"⟩
abbrev cX0_passTick : ByteArray := prog_2_method_9_code
def yX0_passTick : MethodName := ⟨RX0, "passTick", "(I)I"⟩
def RX1 : String := "LetterStore$Held"
def TX1 : u_T := fun k => match k with
  | 0 => ("LetterStore$Line", "mark", "I", false)
  | 1 => ("LetterStore$Line", "pace", "I", false)
  | 2 => ("LetterStore$Sure", "part", "I", false)
  | 3 => ("LetterStore$Held", "high", "I", false)
  | 4 => ("LetterStore$Held", "low", "I", false)
  | _ => ("LetterStore$Held", "lag", "I", false)
def tyX1 : Nat → FieldType := fun k => match k with
  | 0 => .int
  | 1 => .int
  | 2 => .int
  | 3 => .int
  | 4 => .int
  | _ => .int
theorem nmX1 : ∀ a, a < 6 → ∀ b, b < 6 → a ≠ b → (TX1 a).2.1 ≠ (TX1 b).2.1 := by decide +kernel
theorem tyX1_ok : ∀ k, k < 6 → parseFieldDescriptor (TX1 k).2.2.1 = some (tyX1 k) := by decide +kernel
abbrev cX1_init : ByteArray := prog_3_method_1_code
def yX1_init : MethodName := ⟨RX1, "<init>", "(I)V"⟩
abbrev cX1_kindNumber : ByteArray := prog_3_method_2_code
def yX1_kindNumber : MethodName := ⟨RX1, "kindNumber", "()I"⟩
abbrev cX1_bound : ByteArray := prog_3_method_3_code
def yX1_bound : MethodName := ⟨RX1, "bound", "(I)I"⟩
abbrev cX1_tellsHalt : ByteArray := prog_3_method_4_code
def yX1_tellsHalt : MethodName := ⟨RX1, "tellsHalt", "(IZ)Z"⟩
def RX2 : String := "LetterStore$Line"
def TX2 : u_T := fun k => match k with
  | 0 => ("LetterStore$Line", "mark", "I", false)
  | _ => ("LetterStore$Line", "pace", "I", false)
def tyX2 : Nat → FieldType := fun k => match k with
  | 0 => .int
  | _ => .int
theorem nmX2 : ∀ a, a < 2 → ∀ b, b < 2 → a ≠ b → (TX2 a).2.1 ≠ (TX2 b).2.1 := by decide +kernel
theorem tyX2_ok : ∀ k, k < 2 → parseFieldDescriptor (TX2 k).2.2.1 = some (tyX2 k) := by decide +kernel
abbrev cX2_init : ByteArray := prog_4_method_1_code
def yX2_init : MethodName := ⟨RX2, "<init>", "(I)V"⟩
abbrev cX2_kindNumber : ByteArray := prog_4_method_2_code
def yX2_kindNumber : MethodName := ⟨RX2, "kindNumber", "()I"⟩
abbrev cX2_keptPart : ByteArray := prog_4_method_3_code
def yX2_keptPart : MethodName := ⟨RX2, "keptPart", "()I"⟩
abbrev cX2_sendsAt : ByteArray := prog_4_method_4_code
def yX2_sendsAt : MethodName := ⟨RX2, "sendsAt", "(I)Z"⟩
def RX3 : String := "LetterStore$Queue"
def TX3 : u_T := fun k => match k with
  | 0 => ("LetterStore$Queue", "ring", "[I", true)
  | 1 => ("LetterStore$Queue", "head", "I", false)
  | _ => ("LetterStore$Queue", "size", "I", false)
def tyX3 : Nat → FieldType := fun k => match k with
  | 0 => .array .int
  | 1 => .int
  | _ => .int
theorem nmX3 : ∀ a, a < 3 → ∀ b, b < 3 → a ≠ b → (TX3 a).2.1 ≠ (TX3 b).2.1 := by decide +kernel
theorem tyX3_ok : ∀ k, k < 3 → parseFieldDescriptor (TX3 k).2.2.1 = some (tyX3 k) := by decide +kernel
abbrev cX3_init : ByteArray := prog_5_method_1_code
def yX3_init : MethodName := ⟨RX3, "<init>", "()V"⟩
abbrev cX3_addLast : ByteArray := prog_5_method_2_code
def yX3_addLast : MethodName := ⟨RX3, "addLast", "(I)V"⟩
abbrev cX3_removeFirst : ByteArray := prog_5_method_3_code
def yX3_removeFirst : MethodName := ⟨RX3, "removeFirst", "()I"⟩
abbrev cX3_removeLast : ByteArray := prog_5_method_4_code
def yX3_removeLast : MethodName := ⟨RX3, "removeLast", "()I"⟩
def RX4 : String := "LetterStore$Row"
def TX4 : u_T := fun k => match k with
  | 0 => ("LetterStore$Row", "tickOf", "[I", true)
  | 1 => ("LetterStore$Row", "lineOf", "[I", true)
  | 2 => ("LetterStore$Row", "size", "I", false)
  | _ => ("LetterStore$Row", "passes", "Z", false)
def tyX4 : Nat → FieldType := fun k => match k with
  | 0 => .array .int
  | 1 => .array .int
  | 2 => .int
  | _ => .boolean
theorem nmX4 : ∀ a, a < 4 → ∀ b, b < 4 → a ≠ b → (TX4 a).2.1 ≠ (TX4 b).2.1 := by decide +kernel
theorem tyX4_ok : ∀ k, k < 4 → parseFieldDescriptor (TX4 k).2.2.1 = some (tyX4 k) := by decide +kernel
abbrev cX4_init : ByteArray := prog_6_method_1_code
def yX4_init : MethodName := ⟨RX4, "<init>", "()V"⟩
abbrev cX4_lastTick : ByteArray := prog_6_method_2_code
def yX4_lastTick : MethodName := ⟨RX4, "lastTick", "()I"⟩
abbrev cX4_addLetters : ByteArray := prog_6_method_3_code
def yX4_addLetters : MethodName := ⟨RX4, "addLetters", "(LLetterStore$Sheet;II)V"⟩
def RX5 : String := "LetterStore$Run"
def TX5 : u_T := fun k => match k with
  | 0 => ("LetterStore$Run", "setting", "LLetterStore$Setting;", true)
  | 1 => ("LetterStore$Run", "queues", "[LLetterStore$Queue;", true)
  | 2 => ("LetterStore$Run", "lineOf", "[I", true)
  | 3 => ("LetterStore$Run", "takenAt", "[I", true)
  | 4 => ("LetterStore$Run", "fateOf", "[I", true)
  | 5 => ("LetterStore$Run", "fateTick", "[I", true)
  | 6 => ("LetterStore$Run", "pusherOf", "[I", true)
  | 7 => ("LetterStore$Run", "peakOf", "[I", true)
  | 8 => ("LetterStore$Run", "haltBits", "[I", true)
  | 9 => ("LetterStore$Run", "senderPlace", "[I", true)
  | 10 => ("LetterStore$Run", "rule", "I", false)
  | 11 => ("LetterStore$Run", "sendersWait", "Z", false)
  | 12 => ("LetterStore$Run", "now", "I", false)
  | 13 => ("LetterStore$Run", "duePlace", "I", false)
  | 14 => ("LetterStore$Run", "letterCount", "I", false)
  | 15 => ("LetterStore$Run", "tickCount", "I", false)
  | 16 => ("LetterStore$Run", "undecided", "I", false)
  | 17 => ("LetterStore$Run", "stored", "I", false)
  | _ => ("LetterStore$Run", "peakOfAll", "I", false)
def tyX5 : Nat → FieldType := fun k => match k with
  | 0 => .object "LetterStore$Setting"
  | 1 => .array (.object "LetterStore$Queue")
  | 2 => .array .int
  | 3 => .array .int
  | 4 => .array .int
  | 5 => .array .int
  | 6 => .array .int
  | 7 => .array .int
  | 8 => .array .int
  | 9 => .array .int
  | 10 => .int
  | 11 => .boolean
  | 12 => .int
  | 13 => .int
  | 14 => .int
  | 15 => .int
  | 16 => .int
  | 17 => .int
  | _ => .int
theorem nmX5 : ∀ a, a < 19 → ∀ b, b < 19 → a ≠ b → (TX5 a).2.1 ≠ (TX5 b).2.1 := by decide +kernel
theorem tyX5_ok : ∀ k, k < 19 → parseFieldDescriptor (TX5 k).2.2.1 = some (tyX5 k) := by decide +kernel
abbrev cX5_init : ByteArray := prog_7_method_1_code
def yX5_init : MethodName := ⟨RX5, "<init>", "(LLetterStore$Setting;)V"⟩
abbrev cX5_play : ByteArray := prog_7_method_2_code
def yX5_play : MethodName := ⟨RX5, "play", "(LLetterStore$Row;IZ)V"⟩
abbrev cX5_begin : ByteArray := prog_7_method_3_code
def yX5_begin : MethodName := ⟨RX5, "begin", "(LLetterStore$Row;)V"⟩
abbrev cX5_settle : ByteArray := prog_7_method_4_code
def yX5_settle : MethodName := ⟨RX5, "settle", "(III)V"⟩
abbrev cX5_offerHeld : ByteArray := prog_7_method_5_code
def yX5_offerHeld : MethodName := ⟨RX5, "offerHeld", "(LLetterStore$Row;)V"⟩
abbrev cX5_waits : ByteArray := prog_7_method_6_code
def yX5_waits : MethodName := ⟨RX5, "waits", "(I)Z"⟩
abbrev cX5_isHalted : ByteArray := prog_7_method_7_code
def yX5_isHalted : MethodName := ⟨RX5, "isHalted", "(I)Z"⟩
abbrev cX5_nextWaiting : ByteArray := prog_7_method_8_code
def yX5_nextWaiting : MethodName := ⟨RX5, "nextWaiting", "(LLetterStore$Row;I)I"⟩
abbrev cX5_offerDue : ByteArray := prog_7_method_9_code
def yX5_offerDue : MethodName := ⟨RX5, "offerDue", "(LLetterStore$Row;)V"⟩
abbrev cX5_offer : ByteArray := prog_7_method_10_code
def yX5_offer : MethodName := ⟨RX5, "offer", "(I)V"⟩
abbrev cX5_admits : ByteArray := prog_7_method_11_code
def yX5_admits : MethodName := ⟨RX5, "admits", "(I)Z"⟩
abbrev cX5_pushesOut : ByteArray := prog_7_method_12_code
def yX5_pushesOut : MethodName := ⟨RX5, "pushesOut", "(II)Z"⟩
abbrev cX5_hasRoomBeside : ByteArray := prog_7_method_13_code
def yX5_hasRoomBeside : MethodName := ⟨RX5, "hasRoomBeside", "()Z"⟩
abbrev cX5_take : ByteArray := prog_7_method_14_code
def yX5_take : MethodName := ⟨RX5, "take", "(I)V"⟩
abbrev cX5_sendFirsts : ByteArray := prog_7_method_15_code
def yX5_sendFirsts : MethodName := ⟨RX5, "sendFirsts", "()V"⟩
abbrev cX5_tellStates : ByteArray := prog_7_method_16_code
def yX5_tellStates : MethodName := ⟨RX5, "tellStates", "()V"⟩
abbrev cX5_sendRest : ByteArray := prog_7_method_17_code
def yX5_sendRest : MethodName := ⟨RX5, "sendRest", "()V"⟩
abbrev cX5_countOf : ByteArray := prog_7_method_18_code
def yX5_countOf : MethodName := ⟨RX5, "countOf", "(II)I"⟩
abbrev cX5_lengthAt : ByteArray := prog_7_method_19_code
def yX5_lengthAt : MethodName := ⟨RX5, "lengthAt", "(II)I"⟩
def RX6 : String := "LetterStore$Setting"
def TX6 : u_T := fun k => match k with
  | 0 => ("LetterStore$Setting", "lines", "[LLetterStore$Line;", true)
  | 1 => ("LetterStore$Setting", "lineCount", "I", false)
  | 2 => ("LetterStore$Setting", "roomSize", "I", false)
  | _ => ("LetterStore$Setting", "shareSize", "I", false)
def tyX6 : Nat → FieldType := fun k => match k with
  | 0 => .array (.object "LetterStore$Line")
  | 1 => .int
  | 2 => .int
  | _ => .int
theorem nmX6 : ∀ a, a < 4 → ∀ b, b < 4 → a ≠ b → (TX6 a).2.1 ≠ (TX6 b).2.1 := by decide +kernel
theorem tyX6_ok : ∀ k, k < 4 → parseFieldDescriptor (TX6 k).2.2.1 = some (tyX6 k) := by decide +kernel
abbrev cX6_init : ByteArray := prog_8_method_1_code
def yX6_init : MethodName := ⟨RX6, "<init>", "()V"⟩
abbrev cX6_lineAt : ByteArray := prog_8_method_2_code
def yX6_lineAt : MethodName := ⟨RX6, "lineAt", "(I)LLetterStore$Line;"⟩
abbrev cX6_addLine : ByteArray := prog_8_method_3_code
def yX6_addLine : MethodName := ⟨RX6, "addLine", "(LLetterStore$Line;)I"⟩
abbrev cX6_partsTogether : ByteArray := prog_8_method_4_code
def yX6_partsTogether : MethodName := ⟨RX6, "partsTogether", "()I"⟩
def RX7 : String := "LetterStore$Sheet"
def TX7 : u_T := fun k => match k with
  | 0 => ("LetterStore$Sheet", "lane", "I", true)
  | _ => ("LetterStore$Sheet", "items", "[I", true)
def tyX7 : Nat → FieldType := fun k => match k with
  | 0 => .int
  | _ => .array .int
theorem nmX7 : ∀ a, a < 2 → ∀ b, b < 2 → a ≠ b → (TX7 a).2.1 ≠ (TX7 b).2.1 := by decide +kernel
theorem tyX7_ok : ∀ k, k < 2 → parseFieldDescriptor (TX7 k).2.2.1 = some (tyX7 k) := by decide +kernel
abbrev cX7_init : ByteArray := prog_9_method_1_code
def yX7_init : MethodName := ⟨RX7, "<init>", "(II)V"⟩
abbrev cX7_hasItems : ByteArray := prog_9_method_2_code
def yX7_hasItems : MethodName := ⟨RX7, "hasItems", "(II)Z"⟩
abbrev cX7_put : ByteArray := prog_9_method_3_code
def yX7_put : MethodName := ⟨RX7, "put", "(II)V"⟩
def RX8 : String := "LetterStore$Sure"
def TX8 : u_T := fun k => match k with
  | 0 => ("LetterStore$Line", "mark", "I", false)
  | 1 => ("LetterStore$Line", "pace", "I", false)
  | _ => ("LetterStore$Sure", "part", "I", false)
def tyX8 : Nat → FieldType := fun k => match k with
  | 0 => .int
  | 1 => .int
  | _ => .int
theorem nmX8 : ∀ a, a < 3 → ∀ b, b < 3 → a ≠ b → (TX8 a).2.1 ≠ (TX8 b).2.1 := by decide +kernel
theorem tyX8_ok : ∀ k, k < 3 → parseFieldDescriptor (TX8 k).2.2.1 = some (tyX8 k) := by decide +kernel
abbrev cX8_init : ByteArray := prog_10_method_1_code
def yX8_init : MethodName := ⟨RX8, "<init>", "(I)V"⟩
abbrev cX8_kindNumber : ByteArray := prog_10_method_2_code
def yX8_kindNumber : MethodName := ⟨RX8, "kindNumber", "()I"⟩
abbrev cX8_keptPart : ByteArray := prog_10_method_3_code
def yX8_keptPart : MethodName := ⟨RX8, "keptPart", "()I"⟩
def RX9 : String := "LetterStore"
def TX9 : u_T := fun k => match k with
  | 0 => ("LetterStore", "setting", "LLetterStore$Setting;", true)
  | 1 => ("LetterStore", "rows", "[LLetterStore$Row;", true)
  | 2 => ("LetterStore", "sheets", "[LLetterStore$Sheet;", true)
  | 3 => ("LetterStore", "latest", "LLetterStore$Run;", true)
  | 4 => ("LetterStore", "trial", "LLetterStore$Run;", true)
  | 5 => ("LetterStore", "foresight", "LLetterStore$Foresight;", true)
  | 6 => ("LetterStore", "hasRun", "Z", false)
  | _ => ("LetterStore", "witnessRow", "I", false)
def tyX9 : Nat → FieldType := fun k => match k with
  | 0 => .object "LetterStore$Setting"
  | 1 => .array (.object "LetterStore$Row")
  | 2 => .array (.object "LetterStore$Sheet")
  | 3 => .object "LetterStore$Run"
  | 4 => .object "LetterStore$Run"
  | 5 => .object "LetterStore$Foresight"
  | 6 => .boolean
  | _ => .int
theorem nmX9 : ∀ a, a < 8 → ∀ b, b < 8 → a ≠ b → (TX9 a).2.1 ≠ (TX9 b).2.1 := by decide +kernel
theorem tyX9_ok : ∀ k, k < 8 → parseFieldDescriptor (TX9 k).2.2.1 = some (tyX9 k) := by decide +kernel
abbrev cX9_init : ByteArray := prog_1_method_1_code
def yX9_init : MethodName := ⟨RX9, "<init>", "()V"⟩
abbrev cX9_room : ByteArray := prog_1_method_2_code
def yX9_room : MethodName := ⟨RX9, "room", "(I)I"⟩
abbrev cX9_line : ByteArray := prog_1_method_3_code
def yX9_line : MethodName := ⟨RX9, "line", "(II)I"⟩
abbrev cX9_mark : ByteArray := prog_1_method_4_code
def yX9_mark : MethodName := ⟨RX9, "mark", "(II)I"⟩
abbrev cX9_pace : ByteArray := prog_1_method_5_code
def yX9_pace : MethodName := ⟨RX9, "pace", "(II)I"⟩
abbrev cX9_part : ByteArray := prog_1_method_6_code
def yX9_part : MethodName := ⟨RX9, "part", "(II)I"⟩
abbrev cX9_hold : ByteArray := prog_1_method_7_code
def yX9_hold : MethodName := ⟨RX9, "hold", "(IIII)I"⟩
abbrev cX9_told : ByteArray := prog_1_method_8_code
def yX9_told : MethodName := ⟨RX9, "told", "(II)I"⟩
abbrev cX9_share : ByteArray := prog_1_method_9_code
def yX9_share : MethodName := ⟨RX9, "share", "(I)I"⟩
abbrev cX9_sheet : ByteArray := prog_1_method_10_code
def yX9_sheet : MethodName := ⟨RX9, "sheet", "(III)I"⟩
abbrev cX9_drop : ByteArray := prog_1_method_11_code
def yX9_drop : MethodName := ⟨RX9, "drop", "(I)I"⟩
abbrev cX9_item : ByteArray := prog_1_method_12_code
def yX9_item : MethodName := ⟨RX9, "item", "(IIII)I"⟩
abbrev cX9_copy : ByteArray := prog_1_method_13_code
def yX9_copy : MethodName := ⟨RX9, "copy", "(IIIII)I"⟩
abbrev cX9_letters : ByteArray := prog_1_method_14_code
def yX9_letters : MethodName := ⟨RX9, "letters", "(IIIII)I"⟩
abbrev cX9_clear : ByteArray := prog_1_method_15_code
def yX9_clear : MethodName := ⟨RX9, "clear", "(I)I"⟩
abbrev cX9_letter : ByteArray := prog_1_method_16_code
def yX9_letter : MethodName := ⟨RX9, "letter", "(III)I"⟩
abbrev cX9_run : ByteArray := prog_1_method_17_code
def yX9_run : MethodName := ⟨RX9, "run", "(II)I"⟩
abbrev cX9_fate : ByteArray := prog_1_method_18_code
def yX9_fate : MethodName := ⟨RX9, "fate", "(II)I"⟩
abbrev cX9_sum : ByteArray := prog_1_method_19_code
def yX9_sum : MethodName := ⟨RX9, "sum", "(II)I"⟩
abbrev cX9_length : ByteArray := prog_1_method_20_code
def yX9_length : MethodName := ⟨RX9, "length", "(II)I"⟩
abbrev cX9_ticks : ByteArray := prog_1_method_21_code
def yX9_ticks : MethodName := ⟨RX9, "ticks", "()I"⟩
abbrev cX9_best : ByteArray := prog_1_method_22_code
def yX9_best : MethodName := ⟨RX9, "best", "(I)I"⟩
abbrev cX9_shortBy : ByteArray := prog_1_method_23_code
def yX9_shortBy : MethodName := ⟨RX9, "shortBy", "(II)I"⟩
abbrev cX9_pass : ByteArray := prog_1_method_24_code
def yX9_pass : MethodName := ⟨RX9, "pass", "(IZ)I"⟩
abbrev cX9_marks : ByteArray := prog_1_method_25_code
def yX9_marks : MethodName := ⟨RX9, "marks", "()I"⟩
abbrev cX9_witness : ByteArray := prog_1_method_26_code
def yX9_witness : MethodName := ⟨RX9, "witness", "()I"⟩
abbrev cX9_isWithin : ByteArray := prog_1_method_27_code
def yX9_isWithin : MethodName := ⟨RX9, "isWithin", "(III)Z"⟩
abbrev cX9_isSheetNumber : ByteArray := prog_1_method_28_code
def yX9_isSheetNumber : MethodName := ⟨RX9, "isSheetNumber", "(I)Z"⟩
abbrev cX9_isLane : ByteArray := prog_1_method_29_code
def yX9_isLane : MethodName := ⟨RX9, "isLane", "(I)Z"⟩
abbrev cX9_newLine : ByteArray := prog_1_method_30_code
def yX9_newLine : MethodName := ⟨RX9, "newLine", "(II)LLetterStore$Line;"⟩
abbrev cX9_rowAt : ByteArray := prog_1_method_31_code
def yX9_rowAt : MethodName := ⟨RX9, "rowAt", "(I)LLetterStore$Row;"⟩
abbrev cX9_areLetters : ByteArray := prog_1_method_32_code
def yX9_areLetters : MethodName := ⟨RX9, "areLetters", "(LLetterStore$Sheet;III)Z"⟩
def RX10 : String := "LetterStoreModel"
def TX10 : u_T := fun k => match k with
  | 0 => ("LetterStoreModel", "room", "I", false)
  | 1 => ("LetterStoreModel", "lines", "I", false)
  | 2 => ("LetterStoreModel", "kinds", "[I", true)
  | 3 => ("LetterStoreModel", "marks", "[I", true)
  | 4 => ("LetterStoreModel", "paces", "[I", true)
  | 5 => ("LetterStoreModel", "parts", "[I", true)
  | 6 => ("LetterStoreModel", "highs", "[I", true)
  | 7 => ("LetterStoreModel", "lows", "[I", true)
  | 8 => ("LetterStoreModel", "lags", "[I", true)
  | 9 => ("LetterStoreModel", "share", "I", false)
  | 10 => ("LetterStoreModel", "lanes", "[I", true)
  | 11 => ("LetterStoreModel", "sizes", "[I", true)
  | 12 => ("LetterStoreModel", "items", "[I", true)
  | 13 => ("LetterStoreModel", "moved", "[I", true)
  | 14 => ("LetterStoreModel", "many", "[I", true)
  | 15 => ("LetterStoreModel", "tickOf", "[I", true)
  | 16 => ("LetterStoreModel", "lineOf", "[I", true)
  | 17 => ("LetterStoreModel", "passes", "[Z", true)
  | 18 => ("LetterStoreModel", "row", "I", false)
  | 19 => ("LetterStoreModel", "rule", "I", false)
  | 20 => ("LetterStoreModel", "a", "I", false)
  | 21 => ("LetterStoreModel", "plain", "Z", false)
  | 22 => ("LetterStoreModel", "time", "I", false)
  | 23 => ("LetterStoreModel", "queue", "[I", true)
  | 24 => ("LetterStoreModel", "length", "[I", true)
  | 25 => ("LetterStoreModel", "sent", "[I", true)
  | 26 => ("LetterStoreModel", "next", "[I", true)
  | 27 => ("LetterStoreModel", "halts", "[Z", true)
  | 28 => ("LetterStoreModel", "toldHalt", "[Z", true)
  | 29 => ("LetterStoreModel", "fate", "[I", true)
  | 30 => ("LetterStoreModel", "fateTick", "[I", true)
  | 31 => ("LetterStoreModel", "pusher", "[I", true)
  | 32 => ("LetterStoreModel", "greatest", "[I", true)
  | 33 => ("LetterStoreModel", "lengthAt", "[I", true)
  | 34 => ("LetterStoreModel", "ran", "Z", false)
  | 35 => ("LetterStoreModel", "ranMany", "I", false)
  | 36 => ("LetterStoreModel", "ranTicks", "I", false)
  | 37 => ("LetterStoreModel", "ranFate", "[I", true)
  | 38 => ("LetterStoreModel", "ranTick", "[I", true)
  | 39 => ("LetterStoreModel", "ranBy", "[I", true)
  | 40 => ("LetterStoreModel", "ranLine", "[I", true)
  | 41 => ("LetterStoreModel", "ranGreatest", "[I", true)
  | 42 => ("LetterStoreModel", "most", "[I", true)
  | 43 => ("LetterStoreModel", "after", "[I", true)
  | _ => ("LetterStoreModel", "witness", "I", false)
def tyX10 : Nat → FieldType := fun k => match k with
  | 0 => .int
  | 1 => .int
  | 2 => .array .int
  | 3 => .array .int
  | 4 => .array .int
  | 5 => .array .int
  | 6 => .array .int
  | 7 => .array .int
  | 8 => .array .int
  | 9 => .int
  | 10 => .array .int
  | 11 => .array .int
  | 12 => .array .int
  | 13 => .array .int
  | 14 => .array .int
  | 15 => .array .int
  | 16 => .array .int
  | 17 => .array .boolean
  | 18 => .int
  | 19 => .int
  | 20 => .int
  | 21 => .boolean
  | 22 => .int
  | 23 => .array .int
  | 24 => .array .int
  | 25 => .array .int
  | 26 => .array .int
  | 27 => .array .boolean
  | 28 => .array .boolean
  | 29 => .array .int
  | 30 => .array .int
  | 31 => .array .int
  | 32 => .array .int
  | 33 => .array .int
  | 34 => .boolean
  | 35 => .int
  | 36 => .int
  | 37 => .array .int
  | 38 => .array .int
  | 39 => .array .int
  | 40 => .array .int
  | 41 => .array .int
  | 42 => .array .int
  | 43 => .array .int
  | _ => .int
theorem nmX10 : ∀ a, a < 45 → ∀ b, b < 45 → a ≠ b → (TX10 a).2.1 ≠ (TX10 b).2.1 := by decide +kernel
theorem tyX10_ok : ∀ k, k < 45 → parseFieldDescriptor (TX10 k).2.2.1 = some (tyX10 k) := by decide +kernel
abbrev cX10_in : ByteArray := prog_12_method_2_code
def yX10_in : MethodName := ⟨RX10, "in", "(III)Z"⟩
abbrev cX10_init : ByteArray := prog_12_method_3_code
def yX10_init : MethodName := ⟨RX10, "<init>", "()V"⟩
abbrev cX10_isLine : ByteArray := prog_12_method_4_code
def yX10_isLine : MethodName := ⟨RX10, "isLine", "(I)Z"⟩
abbrev cX10_allParts : ByteArray := prog_12_method_5_code
def yX10_allParts : MethodName := ⟨RX10, "allParts", "()I"⟩
abbrev cX10_room : ByteArray := prog_12_method_6_code
def yX10_room : MethodName := ⟨RX10, "room", "(I)I"⟩
abbrev cX10_line : ByteArray := prog_12_method_7_code
def yX10_line : MethodName := ⟨RX10, "line", "(II)I"⟩
abbrev cX10_mark : ByteArray := prog_12_method_8_code
def yX10_mark : MethodName := ⟨RX10, "mark", "(II)I"⟩
abbrev cX10_pace : ByteArray := prog_12_method_9_code
def yX10_pace : MethodName := ⟨RX10, "pace", "(II)I"⟩
abbrev cX10_part : ByteArray := prog_12_method_10_code
def yX10_part : MethodName := ⟨RX10, "part", "(II)I"⟩
abbrev cX10_hold : ByteArray := prog_12_method_11_code
def yX10_hold : MethodName := ⟨RX10, "hold", "(IIII)I"⟩
abbrev cX10_told : ByteArray := prog_12_method_12_code
def yX10_told : MethodName := ⟨RX10, "told", "(II)I"⟩
abbrev cX10_share : ByteArray := prog_12_method_13_code
def yX10_share : MethodName := ⟨RX10, "share", "(I)I"⟩
abbrev cX10_isSheet : ByteArray := prog_12_method_14_code
def yX10_isSheet : MethodName := ⟨RX10, "isSheet", "(I)Z"⟩
abbrev cX10_sheet : ByteArray := prog_12_method_15_code
def yX10_sheet : MethodName := ⟨RX10, "sheet", "(III)I"⟩
abbrev cX10_drop : ByteArray := prog_12_method_16_code
def yX10_drop : MethodName := ⟨RX10, "drop", "(I)I"⟩
abbrev cX10_item : ByteArray := prog_12_method_17_code
def yX10_item : MethodName := ⟨RX10, "item", "(IIII)I"⟩
abbrev cX10_isWithin : ByteArray := prog_12_method_18_code
def yX10_isWithin : MethodName := ⟨RX10, "isWithin", "(III)Z"⟩
abbrev cX10_copy : ByteArray := prog_12_method_19_code
def yX10_copy : MethodName := ⟨RX10, "copy", "(IIIII)I"⟩
abbrev cX10_isRow : ByteArray := prog_12_method_20_code
def yX10_isRow : MethodName := ⟨RX10, "isRow", "(I)Z"⟩
abbrev cX10_letters : ByteArray := prog_12_method_21_code
def yX10_letters : MethodName := ⟨RX10, "letters", "(IIIII)I"⟩
abbrev cX10_clear : ByteArray := prog_12_method_22_code
def yX10_clear : MethodName := ⟨RX10, "clear", "(I)I"⟩
abbrev cX10_letter : ByteArray := prog_12_method_23_code
def yX10_letter : MethodName := ⟨RX10, "letter", "(III)I"⟩
abbrev cX10_isHeld : ByteArray := prog_12_method_24_code
def yX10_isHeld : MethodName := ⟨RX10, "isHeld", "(I)Z"⟩
abbrev cX10_all : ByteArray := prog_12_method_25_code
def yX10_all : MethodName := ⟨RX10, "all", "()I"⟩
abbrev cX10_ends : ByteArray := prog_12_method_26_code
def yX10_ends : MethodName := ⟨RX10, "ends", "(II)V"⟩
abbrev cX10_counted : ByteArray := prog_12_method_27_code
def yX10_counted : MethodName := ⟨RX10, "counted", "()I"⟩
abbrev cX10_longest : ByteArray := prog_12_method_28_code
def yX10_longest : MethodName := ⟨RX10, "longest", "()I"⟩
abbrev cX10_takes : ByteArray := prog_12_method_29_code
def yX10_takes : MethodName := ⟨RX10, "takes", "(II)Z"⟩
abbrev cX10_comes : ByteArray := prog_12_method_30_code
def yX10_comes : MethodName := ⟨RX10, "comes", "(I)V"⟩
abbrev cX10_waiting : ByteArray := prog_12_method_31_code
def yX10_waiting : MethodName := ⟨RX10, "waiting", "(I)I"⟩
abbrev cX10_isLeft : ByteArray := prog_12_method_32_code
def yX10_isLeft : MethodName := ⟨RX10, "isLeft", "()Z"⟩
abbrev cX10_senders : ByteArray := prog_12_method_33_code
def yX10_senders : MethodName := ⟨RX10, "senders", "()V"⟩
abbrev cX10_sends : ByteArray := prog_12_method_34_code
def yX10_sends : MethodName := ⟨RX10, "sends", "()V"⟩
abbrev cX10_tells : ByteArray := prog_12_method_35_code
def yX10_tells : MethodName := ⟨RX10, "tells", "(Z)V"⟩
abbrev cX10_go : ByteArray := prog_12_method_36_code
def yX10_go : MethodName := ⟨RX10, "go", "(IIIZZ)V"⟩
abbrev cX10_countSent : ByteArray := prog_12_method_37_code
def yX10_countSent : MethodName := ⟨RX10, "countSent", "()I"⟩
abbrev cX10_run : ByteArray := prog_12_method_38_code
def yX10_run : MethodName := ⟨RX10, "run", "(II)I"⟩
abbrev cX10_fate : ByteArray := prog_12_method_39_code
def yX10_fate : MethodName := ⟨RX10, "fate", "(II)I"⟩
abbrev cX10_sum : ByteArray := prog_12_method_40_code
def yX10_sum : MethodName := ⟨RX10, "sum", "(II)I"⟩
abbrev cX10_length : ByteArray := prog_12_method_41_code
def yX10_length : MethodName := ⟨RX10, "length", "(II)I"⟩
abbrev cX10_ticks : ByteArray := prog_12_method_42_code
def yX10_ticks : MethodName := ⟨RX10, "ticks", "()I"⟩
abbrev cX10_place : ByteArray := prog_12_method_43_code
def yX10_place : MethodName := ⟨RX10, "place", "(I)I"⟩
abbrev cX10_lengthIn : ByteArray := prog_12_method_44_code
def yX10_lengthIn : MethodName := ⟨RX10, "lengthIn", "(II)I"⟩
abbrev cX10_allIn : ByteArray := prog_12_method_45_code
def yX10_allIn : MethodName := ⟨RX10, "allIn", "(I)I"⟩
abbrev cX10_offer : ByteArray := prog_12_method_46_code
def yX10_offer : MethodName := ⟨RX10, "offer", "(I)V"⟩
abbrev cX10_serve : ByteArray := prog_12_method_47_code
def yX10_serve : MethodName := ⟨RX10, "serve", "(I)V"⟩
abbrev cX10_best : ByteArray := prog_12_method_48_code
def yX10_best : MethodName := ⟨RX10, "best", "(I)I"⟩
abbrev cX10_shortBy : ByteArray := prog_12_method_49_code
def yX10_shortBy : MethodName := ⟨RX10, "shortBy", "(II)I"⟩
abbrev cX10_pass : ByteArray := prog_12_method_50_code
def yX10_pass : MethodName := ⟨RX10, "pass", "(IZ)I"⟩
abbrev cX10_leastOf : ByteArray := prog_12_method_51_code
def yX10_leastOf : MethodName := ⟨RX10, "leastOf", "(I)I"⟩
abbrev cX10_marks : ByteArray := prog_12_method_52_code
def yX10_marks : MethodName := ⟨RX10, "marks", "()I"⟩
abbrev cX10_witness : ByteArray := prog_12_method_53_code
def yX10_witness : MethodName := ⟨RX10, "witness", "()I"⟩
def RJ9 : String := "java/lang/Math"
def TJ9 : u_T := fun k => match k with
  | _ => ("", "", "", false)
def tyJ9 : Nat → FieldType := fun k => match k with
  | _ => .int
theorem nmJ9 : ∀ a, a < 0 → ∀ b, b < 0 → a ≠ b → (TJ9 a).2.1 ≠ (TJ9 b).2.1 := by decide +kernel
theorem tyJ9_ok : ∀ k, k < 0 → parseFieldDescriptor (TJ9 k).2.2.1 = some (tyJ9 k) := by decide +kernel
abbrev cJ9_max_7cf53 : ByteArray := prog_13_method_65_code
def yJ9_max_7cf53 : MethodName := ⟨RJ9, "max", "(II)I"⟩
def RJ10 : String := "java/lang/System"
def TJ10 : u_T := fun k => match k with
  | _ => ("", "", "", false)
def tyJ10 : Nat → FieldType := fun k => match k with
  | _ => .int
theorem nmJ10 : ∀ a, a < 0 → ∀ b, b < 0 → a ≠ b → (TJ10 a).2.1 ≠ (TJ10 b).2.1 := by decide +kernel
theorem tyJ10_ok : ∀ k, k < 0 → parseFieldDescriptor (TJ10 k).2.2.1 = some (tyJ10 k) := by decide +kernel
def RL : String := "LetterStoreLaw"
abbrev cL_law : ByteArray := code
def yL_law : MethodName := ⟨RL, "law", "([I)Z"⟩
abbrev vwCl : List vw_C := [(RX0, TX0, 5), (RX1, TX1, 6), (RX2, TX2, 2), (RX3, TX3, 3), (RX4, TX4, 4), (RX5, TX5, 19), (RX6, TX6, 4), (RX7, TX7, 2), (RX8, TX8, 3), (RX9, TX9, 8), (RX10, TX10, 45)]
end
section
theorem dX0_init_0 : decode cX0_init 0 = .ok (.aload_n 0, 1) := by decide +kernel
theorem dX0_init_1 : decode cX0_init 1 = .ok (.invokespecial 3, 3) := by decide +kernel
theorem dX0_init_4 : decode cX0_init 4 = .ok (.aload_n 0, 1) := by decide +kernel
theorem dX0_init_5 : decode cX0_init 5 = .ok (.bipush 80, 2) := by decide +kernel
theorem dX0_init_7 : decode cX0_init 7 = .ok (.newarray .int, 2) := by decide +kernel
theorem dX0_init_9 : decode cX0_init 9 = .ok (.putfield 9, 3) := by decide +kernel
theorem dX0_init_12 : decode cX0_init 12 = .ok (.aload_n 0, 1) := by decide +kernel
theorem dX0_init_13 : decode cX0_init 13 = .ok (.bipush 80, 2) := by decide +kernel
theorem dX0_init_15 : decode cX0_init 15 = .ok (.newarray .int, 2) := by decide +kernel
theorem dX0_init_17 : decode cX0_init 17 = .ok (.putfield 15, 3) := by decide +kernel
theorem dX0_init_20 : decode cX0_init 20 = .ok (.aload_n 0, 1) := by decide +kernel
theorem dX0_init_21 : decode cX0_init 21 = .ok (.iconst 4, 1) := by decide +kernel
theorem dX0_init_22 : decode cX0_init 22 = .ok (.newarray .int, 2) := by decide +kernel
theorem dX0_init_24 : decode cX0_init 24 = .ok (.putfield 18, 3) := by decide +kernel
theorem dX0_init_27 : decode cX0_init 27 = .ok (.aload_n 0, 1) := by decide +kernel
theorem dX0_init_28 : decode cX0_init 28 = .ok (.iconst 4, 1) := by decide +kernel
theorem dX0_init_29 : decode cX0_init 29 = .ok (.newarray .int, 2) := by decide +kernel
theorem dX0_init_31 : decode cX0_init 31 = .ok (.putfield 21, 3) := by decide +kernel
theorem dX0_init_34 : decode cX0_init 34 = .ok (.aload_n 0, 1) := by decide +kernel
theorem dX0_init_35 : decode cX0_init 35 = .ok (.aload_n 1, 1) := by decide +kernel
theorem dX0_init_36 : decode cX0_init 36 = .ok (.putfield 24, 3) := by decide +kernel
theorem dX0_init_39 : decode cX0_init 39 = .ok (.return_, 1) := by decide +kernel
theorem dX0_mostTaken_0 : decode cX0_mostTaken 0 = .ok (.aload_n 0, 1) := by decide +kernel
theorem dX0_mostTaken_1 : decode cX0_mostTaken 1 = .ok (.aload_n 1, 1) := by decide +kernel
theorem dX0_mostTaken_2 : decode cX0_mostTaken 2 = .ok (.invokevirtual 28, 3) := by decide +kernel
theorem dX0_mostTaken_5 : decode cX0_mostTaken 5 = .ok (.iconst 0, 1) := by decide +kernel
theorem dX0_mostTaken_6 : decode cX0_mostTaken 6 = .ok (.istore_n 2, 1) := by decide +kernel
theorem dX0_mostTaken_7 : decode cX0_mostTaken 7 = .ok (.iconst 0, 1) := by decide +kernel
theorem dX0_mostTaken_8 : decode cX0_mostTaken 8 = .ok (.istore_n 3, 1) := by decide +kernel
theorem dX0_mostTaken_9 : decode cX0_mostTaken 9 = .ok (.iload_n 3, 1) := by decide +kernel
theorem dX0_mostTaken_10 : decode cX0_mostTaken 10 = .ok (.aload_n 1, 1) := by decide +kernel
theorem dX0_mostTaken_11 : decode cX0_mostTaken 11 = .ok (.getfield 32, 3) := by decide +kernel
theorem dX0_mostTaken_14 : decode cX0_mostTaken 14 = .ok (.if_icmp .ge 47, 3) := by decide +kernel
theorem dX0_mostTaken_17 : decode cX0_mostTaken 17 = .ok (.iinc 2 1, 3) := by decide +kernel
theorem dX0_mostTaken_20 : decode cX0_mostTaken 20 = .ok (.aload_n 0, 1) := by decide +kernel
theorem dX0_mostTaken_21 : decode cX0_mostTaken 21 = .ok (.aload_n 1, 1) := by decide +kernel
theorem dX0_mostTaken_22 : decode cX0_mostTaken 22 = .ok (.getfield 38, 3) := by decide +kernel
theorem dX0_mostTaken_25 : decode cX0_mostTaken 25 = .ok (.iload_n 3, 1) := by decide +kernel
theorem dX0_mostTaken_26 : decode cX0_mostTaken 26 = .ok (.iaload, 1) := by decide +kernel
theorem dX0_mostTaken_27 : decode cX0_mostTaken 27 = .ok (.iload_n 3, 1) := by decide +kernel
theorem dX0_mostTaken_28 : decode cX0_mostTaken 28 = .ok (.invokevirtual 41, 3) := by decide +kernel
theorem dX0_mostTaken_31 : decode cX0_mostTaken 31 = .ok (.aload_n 0, 1) := by decide +kernel
theorem dX0_mostTaken_32 : decode cX0_mostTaken 32 = .ok (.getfield 24, 3) := by decide +kernel
theorem dX0_mostTaken_35 : decode cX0_mostTaken 35 = .ok (.getfield 45, 3) := by decide +kernel
theorem dX0_mostTaken_38 : decode cX0_mostTaken 38 = .ok (.if_icmp .le 17, 3) := by decide +kernel
theorem dX0_mostTaken_41 : decode cX0_mostTaken 41 = .ok (.aload_n 0, 1) := by decide +kernel
theorem dX0_mostTaken_42 : decode cX0_mostTaken 42 = .ok (.getfield 9, 3) := by decide +kernel
theorem dX0_mostTaken_45 : decode cX0_mostTaken 45 = .ok (.aload_n 0, 1) := by decide +kernel
theorem dX0_mostTaken_46 : decode cX0_mostTaken 46 = .ok (.iload_n 3, 1) := by decide +kernel
theorem dX0_mostTaken_47 : decode cX0_mostTaken 47 = .ok (.invokevirtual 50, 3) := by decide +kernel
theorem dX0_mostTaken_50 : decode cX0_mostTaken 50 = .ok (.iconst (-1), 1) := by decide +kernel
theorem dX0_mostTaken_51 : decode cX0_mostTaken 51 = .ok (.iastore, 1) := by decide +kernel
theorem dX0_mostTaken_52 : decode cX0_mostTaken 52 = .ok (.iinc 2 (-1), 3) := by decide +kernel
theorem dX0_mostTaken_55 : decode cX0_mostTaken 55 = .ok (.iinc 3 1, 3) := by decide +kernel
theorem dX0_mostTaken_58 : decode cX0_mostTaken 58 = .ok (.goto (-49), 3) := by decide +kernel
theorem dX0_mostTaken_61 : decode cX0_mostTaken 61 = .ok (.iload_n 2, 1) := by decide +kernel
theorem dX0_mostTaken_62 : decode cX0_mostTaken 62 = .ok (.ireturn, 1) := by decide +kernel
theorem dX0_pairLettersWithTicks_0 : decode cX0_pairLettersWithTicks 0 = .ok (.iconst 0, 1) := by decide +kernel
theorem dX0_pairLettersWithTicks_1 : decode cX0_pairLettersWithTicks 1 = .ok (.istore_n 2, 1) := by decide +kernel
theorem dX0_pairLettersWithTicks_2 : decode cX0_pairLettersWithTicks 2 = .ok (.iload_n 2, 1) := by decide +kernel
theorem dX0_pairLettersWithTicks_3 : decode cX0_pairLettersWithTicks 3 = .ok (.iconst 4, 1) := by decide +kernel
theorem dX0_pairLettersWithTicks_4 : decode cX0_pairLettersWithTicks 4 = .ok (.if_icmp .ge 16, 3) := by decide +kernel
theorem dX0_pairLettersWithTicks_7 : decode cX0_pairLettersWithTicks 7 = .ok (.aload_n 0, 1) := by decide +kernel
theorem dX0_pairLettersWithTicks_8 : decode cX0_pairLettersWithTicks 8 = .ok (.getfield 18, 3) := by decide +kernel
theorem dX0_pairLettersWithTicks_11 : decode cX0_pairLettersWithTicks 11 = .ok (.iload_n 2, 1) := by decide +kernel
theorem dX0_pairLettersWithTicks_12 : decode cX0_pairLettersWithTicks 12 = .ok (.iconst (-1), 1) := by decide +kernel
theorem dX0_pairLettersWithTicks_13 : decode cX0_pairLettersWithTicks 13 = .ok (.iastore, 1) := by decide +kernel
theorem dX0_pairLettersWithTicks_14 : decode cX0_pairLettersWithTicks 14 = .ok (.iinc 2 1, 3) := by decide +kernel
theorem dX0_pairLettersWithTicks_17 : decode cX0_pairLettersWithTicks 17 = .ok (.goto (-15), 3) := by decide +kernel
theorem dX0_pairLettersWithTicks_20 : decode cX0_pairLettersWithTicks 20 = .ok (.iconst 0, 1) := by decide +kernel
theorem dX0_pairLettersWithTicks_21 : decode cX0_pairLettersWithTicks 21 = .ok (.istore_n 2, 1) := by decide +kernel
theorem dX0_pairLettersWithTicks_22 : decode cX0_pairLettersWithTicks 22 = .ok (.aload_n 1, 1) := by decide +kernel
theorem dX0_pairLettersWithTicks_23 : decode cX0_pairLettersWithTicks 23 = .ok (.getfield 32, 3) := by decide +kernel
theorem dX0_pairLettersWithTicks_26 : decode cX0_pairLettersWithTicks 26 = .ok (.istore_n 3, 1) := by decide +kernel
theorem dX0_pairLettersWithTicks_27 : decode cX0_pairLettersWithTicks 27 = .ok (.iconst 0, 1) := by decide +kernel
theorem dX0_pairLettersWithTicks_28 : decode cX0_pairLettersWithTicks 28 = .ok (.istore 4, 2) := by decide +kernel
theorem dX0_pairLettersWithTicks_30 : decode cX0_pairLettersWithTicks 30 = .ok (.iload 4, 2) := by decide +kernel
theorem dX0_pairLettersWithTicks_32 : decode cX0_pairLettersWithTicks 32 = .ok (.sipush 440, 3) := by decide +kernel
theorem dX0_pairLettersWithTicks_35 : decode cX0_pairLettersWithTicks 35 = .ok (.if_icmp .ge 76, 3) := by decide +kernel
theorem dX0_pairLettersWithTicks_38 : decode cX0_pairLettersWithTicks 38 = .ok (.iload_n 3, 1) := by decide +kernel
theorem dX0_pairLettersWithTicks_39 : decode cX0_pairLettersWithTicks 39 = .ok (.ifCond .le 72, 3) := by decide +kernel
theorem dX0_pairLettersWithTicks_42 : decode cX0_pairLettersWithTicks 42 = .ok (.iload_n 2, 1) := by decide +kernel
theorem dX0_pairLettersWithTicks_43 : decode cX0_pairLettersWithTicks 43 = .ok (.aload_n 1, 1) := by decide +kernel
theorem dX0_pairLettersWithTicks_44 : decode cX0_pairLettersWithTicks 44 = .ok (.getfield 32, 3) := by decide +kernel
theorem dX0_pairLettersWithTicks_47 : decode cX0_pairLettersWithTicks 47 = .ok (.if_icmp .ge 49, 3) := by decide +kernel
theorem dX0_pairLettersWithTicks_50 : decode cX0_pairLettersWithTicks 50 = .ok (.aload_n 1, 1) := by decide +kernel
theorem dX0_pairLettersWithTicks_51 : decode cX0_pairLettersWithTicks 51 = .ok (.getfield 38, 3) := by decide +kernel
theorem dX0_pairLettersWithTicks_54 : decode cX0_pairLettersWithTicks 54 = .ok (.iload_n 2, 1) := by decide +kernel
theorem dX0_pairLettersWithTicks_55 : decode cX0_pairLettersWithTicks 55 = .ok (.iaload, 1) := by decide +kernel
theorem dX0_pairLettersWithTicks_56 : decode cX0_pairLettersWithTicks 56 = .ok (.iload 4, 2) := by decide +kernel
theorem dX0_pairLettersWithTicks_58 : decode cX0_pairLettersWithTicks 58 = .ok (.if_icmp .gt 38, 3) := by decide +kernel
theorem dX0_pairLettersWithTicks_61 : decode cX0_pairLettersWithTicks 61 = .ok (.aload_n 0, 1) := by decide +kernel
theorem dX0_pairLettersWithTicks_62 : decode cX0_pairLettersWithTicks 62 = .ok (.getfield 15, 3) := by decide +kernel
theorem dX0_pairLettersWithTicks_65 : decode cX0_pairLettersWithTicks 65 = .ok (.iload_n 2, 1) := by decide +kernel
theorem dX0_pairLettersWithTicks_66 : decode cX0_pairLettersWithTicks 66 = .ok (.aload_n 0, 1) := by decide +kernel
theorem dX0_pairLettersWithTicks_67 : decode cX0_pairLettersWithTicks 67 = .ok (.getfield 18, 3) := by decide +kernel
theorem dX0_pairLettersWithTicks_70 : decode cX0_pairLettersWithTicks 70 = .ok (.aload_n 1, 1) := by decide +kernel
theorem dX0_pairLettersWithTicks_71 : decode cX0_pairLettersWithTicks 71 = .ok (.getfield 54, 3) := by decide +kernel
theorem dX0_pairLettersWithTicks_74 : decode cX0_pairLettersWithTicks 74 = .ok (.iload_n 2, 1) := by decide +kernel
theorem dX0_pairLettersWithTicks_75 : decode cX0_pairLettersWithTicks 75 = .ok (.iaload, 1) := by decide +kernel
theorem dX0_pairLettersWithTicks_76 : decode cX0_pairLettersWithTicks 76 = .ok (.iaload, 1) := by decide +kernel
theorem dX0_pairLettersWithTicks_77 : decode cX0_pairLettersWithTicks 77 = .ok (.iastore, 1) := by decide +kernel
theorem dX0_pairLettersWithTicks_78 : decode cX0_pairLettersWithTicks 78 = .ok (.aload_n 0, 1) := by decide +kernel
theorem dX0_pairLettersWithTicks_79 : decode cX0_pairLettersWithTicks 79 = .ok (.getfield 18, 3) := by decide +kernel
theorem dX0_pairLettersWithTicks_82 : decode cX0_pairLettersWithTicks 82 = .ok (.aload_n 1, 1) := by decide +kernel
theorem dX0_pairLettersWithTicks_83 : decode cX0_pairLettersWithTicks 83 = .ok (.getfield 54, 3) := by decide +kernel
theorem dX0_pairLettersWithTicks_86 : decode cX0_pairLettersWithTicks 86 = .ok (.iload_n 2, 1) := by decide +kernel
theorem dX0_pairLettersWithTicks_87 : decode cX0_pairLettersWithTicks 87 = .ok (.iaload, 1) := by decide +kernel
theorem dX0_pairLettersWithTicks_88 : decode cX0_pairLettersWithTicks 88 = .ok (.iload_n 2, 1) := by decide +kernel
theorem dX0_pairLettersWithTicks_89 : decode cX0_pairLettersWithTicks 89 = .ok (.iastore, 1) := by decide +kernel
theorem dX0_pairLettersWithTicks_90 : decode cX0_pairLettersWithTicks 90 = .ok (.iinc 2 1, 3) := by decide +kernel
theorem dX0_pairLettersWithTicks_93 : decode cX0_pairLettersWithTicks 93 = .ok (.goto (-51), 3) := by decide +kernel
theorem dX0_pairLettersWithTicks_96 : decode cX0_pairLettersWithTicks 96 = .ok (.iload_n 3, 1) := by decide +kernel
theorem dX0_pairLettersWithTicks_97 : decode cX0_pairLettersWithTicks 97 = .ok (.aload_n 0, 1) := by decide +kernel
theorem dX0_pairLettersWithTicks_98 : decode cX0_pairLettersWithTicks 98 = .ok (.iload 4, 2) := by decide +kernel
theorem dX0_pairLettersWithTicks_100 : decode cX0_pairLettersWithTicks 100 = .ok (.invokevirtual 57, 3) := by decide +kernel
theorem dX0_pairLettersWithTicks_103 : decode cX0_pairLettersWithTicks 103 = .ok (.isub, 1) := by decide +kernel
theorem dX0_pairLettersWithTicks_104 : decode cX0_pairLettersWithTicks 104 = .ok (.istore_n 3, 1) := by decide +kernel
theorem dX0_pairLettersWithTicks_105 : decode cX0_pairLettersWithTicks 105 = .ok (.iinc 4 1, 3) := by decide +kernel
theorem dX0_pairLettersWithTicks_108 : decode cX0_pairLettersWithTicks 108 = .ok (.goto (-78), 3) := by decide +kernel
theorem dX0_pairLettersWithTicks_111 : decode cX0_pairLettersWithTicks 111 = .ok (.return_, 1) := by decide +kernel
theorem dX0_popYoungest_0 : decode cX0_popYoungest 0 = .ok (.iconst 0, 1) := by decide +kernel
theorem dX0_popYoungest_1 : decode cX0_popYoungest 1 = .ok (.istore_n 2, 1) := by decide +kernel
theorem dX0_popYoungest_2 : decode cX0_popYoungest 2 = .ok (.iconst 0, 1) := by decide +kernel
theorem dX0_popYoungest_3 : decode cX0_popYoungest 3 = .ok (.istore_n 3, 1) := by decide +kernel
theorem dX0_popYoungest_4 : decode cX0_popYoungest 4 = .ok (.iload_n 3, 1) := by decide +kernel
theorem dX0_popYoungest_5 : decode cX0_popYoungest 5 = .ok (.aload_n 0, 1) := by decide +kernel
theorem dX0_popYoungest_6 : decode cX0_popYoungest 6 = .ok (.getfield 24, 3) := by decide +kernel
theorem dX0_popYoungest_9 : decode cX0_popYoungest 9 = .ok (.getfield 60, 3) := by decide +kernel
theorem dX0_popYoungest_12 : decode cX0_popYoungest 12 = .ok (.if_icmp .ge 63, 3) := by decide +kernel
theorem dX0_popYoungest_15 : decode cX0_popYoungest 15 = .ok (.aload_n 0, 1) := by decide +kernel
theorem dX0_popYoungest_16 : decode cX0_popYoungest 16 = .ok (.getfield 18, 3) := by decide +kernel
theorem dX0_popYoungest_19 : decode cX0_popYoungest 19 = .ok (.iload_n 3, 1) := by decide +kernel
theorem dX0_popYoungest_20 : decode cX0_popYoungest 20 = .ok (.iaload, 1) := by decide +kernel
theorem dX0_popYoungest_21 : decode cX0_popYoungest 21 = .ok (.istore 4, 2) := by decide +kernel
theorem dX0_popYoungest_23 : decode cX0_popYoungest 23 = .ok (.iload 4, 2) := by decide +kernel
theorem dX0_popYoungest_25 : decode cX0_popYoungest 25 = .ok (.iconst (-1), 1) := by decide +kernel
theorem dX0_popYoungest_26 : decode cX0_popYoungest 26 = .ok (.if_icmp .eq 43, 3) := by decide +kernel
theorem dX0_popYoungest_29 : decode cX0_popYoungest 29 = .ok (.aload_n 0, 1) := by decide +kernel
theorem dX0_popYoungest_30 : decode cX0_popYoungest 30 = .ok (.getfield 24, 3) := by decide +kernel
theorem dX0_popYoungest_33 : decode cX0_popYoungest 33 = .ok (.getfield 63, 3) := by decide +kernel
theorem dX0_popYoungest_36 : decode cX0_popYoungest 36 = .ok (.iload_n 3, 1) := by decide +kernel
theorem dX0_popYoungest_37 : decode cX0_popYoungest 37 = .ok (.aaload, 1) := by decide +kernel
theorem dX0_popYoungest_38 : decode cX0_popYoungest 38 = .ok (.iload_n 1, 1) := by decide +kernel
theorem dX0_popYoungest_39 : decode cX0_popYoungest 39 = .ok (.invokevirtual 67, 3) := by decide +kernel
theorem dX0_popYoungest_42 : decode cX0_popYoungest 42 = .ok (.ifCond .eq 27, 3) := by decide +kernel
theorem dX0_popYoungest_45 : decode cX0_popYoungest 45 = .ok (.aload_n 0, 1) := by decide +kernel
theorem dX0_popYoungest_46 : decode cX0_popYoungest 46 = .ok (.getfield 9, 3) := by decide +kernel
theorem dX0_popYoungest_49 : decode cX0_popYoungest 49 = .ok (.iload 4, 2) := by decide +kernel
theorem dX0_popYoungest_51 : decode cX0_popYoungest 51 = .ok (.iload_n 1, 1) := by decide +kernel
theorem dX0_popYoungest_52 : decode cX0_popYoungest 52 = .ok (.iastore, 1) := by decide +kernel
theorem dX0_popYoungest_53 : decode cX0_popYoungest 53 = .ok (.aload_n 0, 1) := by decide +kernel
theorem dX0_popYoungest_54 : decode cX0_popYoungest 54 = .ok (.getfield 18, 3) := by decide +kernel
theorem dX0_popYoungest_57 : decode cX0_popYoungest 57 = .ok (.iload_n 3, 1) := by decide +kernel
theorem dX0_popYoungest_58 : decode cX0_popYoungest 58 = .ok (.aload_n 0, 1) := by decide +kernel
theorem dX0_popYoungest_59 : decode cX0_popYoungest 59 = .ok (.getfield 15, 3) := by decide +kernel
theorem dX0_popYoungest_62 : decode cX0_popYoungest 62 = .ok (.iload 4, 2) := by decide +kernel
theorem dX0_popYoungest_64 : decode cX0_popYoungest 64 = .ok (.iaload, 1) := by decide +kernel
theorem dX0_popYoungest_65 : decode cX0_popYoungest 65 = .ok (.iastore, 1) := by decide +kernel
theorem dX0_popYoungest_66 : decode cX0_popYoungest 66 = .ok (.iinc 2 1, 3) := by decide +kernel
theorem dX0_popYoungest_69 : decode cX0_popYoungest 69 = .ok (.iinc 3 1, 3) := by decide +kernel
theorem dX0_popYoungest_72 : decode cX0_popYoungest 72 = .ok (.goto (-68), 3) := by decide +kernel
theorem dX0_popYoungest_75 : decode cX0_popYoungest 75 = .ok (.iload_n 2, 1) := by decide +kernel
theorem dX0_popYoungest_76 : decode cX0_popYoungest 76 = .ok (.ireturn, 1) := by decide +kernel
theorem dX0_staysAt_0 : decode cX0_staysAt 0 = .ok (.iconst 0, 1) := by decide +kernel
theorem dX0_staysAt_1 : decode cX0_staysAt 1 = .ok (.istore_n 3, 1) := by decide +kernel
theorem dX0_staysAt_2 : decode cX0_staysAt 2 = .ok (.iconst 0, 1) := by decide +kernel
theorem dX0_staysAt_3 : decode cX0_staysAt 3 = .ok (.istore 4, 2) := by decide +kernel
theorem dX0_staysAt_5 : decode cX0_staysAt 5 = .ok (.iload 4, 2) := by decide +kernel
theorem dX0_staysAt_7 : decode cX0_staysAt 7 = .ok (.iload_n 2, 1) := by decide +kernel
theorem dX0_staysAt_8 : decode cX0_staysAt 8 = .ok (.if_icmp .gt 23, 3) := by decide +kernel
theorem dX0_staysAt_11 : decode cX0_staysAt 11 = .ok (.aload_n 0, 1) := by decide +kernel
theorem dX0_staysAt_12 : decode cX0_staysAt 12 = .ok (.getfield 9, 3) := by decide +kernel
theorem dX0_staysAt_15 : decode cX0_staysAt 15 = .ok (.iload 4, 2) := by decide +kernel
theorem dX0_staysAt_17 : decode cX0_staysAt 17 = .ok (.iaload, 1) := by decide +kernel
theorem dX0_staysAt_18 : decode cX0_staysAt 18 = .ok (.iload_n 1, 1) := by decide +kernel
theorem dX0_staysAt_19 : decode cX0_staysAt 19 = .ok (.if_icmp .lt 6, 3) := by decide +kernel
theorem dX0_staysAt_22 : decode cX0_staysAt 22 = .ok (.iinc 3 1, 3) := by decide +kernel
theorem dX0_staysAt_25 : decode cX0_staysAt 25 = .ok (.iinc 4 1, 3) := by decide +kernel
theorem dX0_staysAt_28 : decode cX0_staysAt 28 = .ok (.goto (-23), 3) := by decide +kernel
theorem dX0_staysAt_31 : decode cX0_staysAt 31 = .ok (.iload_n 3, 1) := by decide +kernel
theorem dX0_staysAt_32 : decode cX0_staysAt 32 = .ok (.ireturn, 1) := by decide +kernel
theorem dX0_longestStay_0 : decode cX0_longestStay 0 = .ok (.iconst 0, 1) := by decide +kernel
theorem dX0_longestStay_1 : decode cX0_longestStay 1 = .ok (.istore_n 2, 1) := by decide +kernel
theorem dX0_longestStay_2 : decode cX0_longestStay 2 = .ok (.iconst 1, 1) := by decide +kernel
theorem dX0_longestStay_3 : decode cX0_longestStay 3 = .ok (.istore_n 3, 1) := by decide +kernel
theorem dX0_longestStay_4 : decode cX0_longestStay 4 = .ok (.iload_n 3, 1) := by decide +kernel
theorem dX0_longestStay_5 : decode cX0_longestStay 5 = .ok (.iload_n 1, 1) := by decide +kernel
theorem dX0_longestStay_6 : decode cX0_longestStay 6 = .ok (.if_icmp .gt 26, 3) := by decide +kernel
theorem dX0_longestStay_9 : decode cX0_longestStay 9 = .ok (.aload_n 0, 1) := by decide +kernel
theorem dX0_longestStay_10 : decode cX0_longestStay 10 = .ok (.getfield 9, 3) := by decide +kernel
theorem dX0_longestStay_13 : decode cX0_longestStay 13 = .ok (.iload_n 3, 1) := by decide +kernel
theorem dX0_longestStay_14 : decode cX0_longestStay 14 = .ok (.iaload, 1) := by decide +kernel
theorem dX0_longestStay_15 : decode cX0_longestStay 15 = .ok (.aload_n 0, 1) := by decide +kernel
theorem dX0_longestStay_16 : decode cX0_longestStay 16 = .ok (.getfield 9, 3) := by decide +kernel
theorem dX0_longestStay_19 : decode cX0_longestStay 19 = .ok (.iload_n 2, 1) := by decide +kernel
theorem dX0_longestStay_20 : decode cX0_longestStay 20 = .ok (.iaload, 1) := by decide +kernel
theorem dX0_longestStay_21 : decode cX0_longestStay 21 = .ok (.if_icmp .le 5, 3) := by decide +kernel
theorem dX0_longestStay_24 : decode cX0_longestStay 24 = .ok (.iload_n 3, 1) := by decide +kernel
theorem dX0_longestStay_25 : decode cX0_longestStay 25 = .ok (.istore_n 2, 1) := by decide +kernel
theorem dX0_longestStay_26 : decode cX0_longestStay 26 = .ok (.iinc 3 1, 3) := by decide +kernel
theorem dX0_longestStay_29 : decode cX0_longestStay 29 = .ok (.goto (-25), 3) := by decide +kernel
theorem dX0_longestStay_32 : decode cX0_longestStay 32 = .ok (.iload_n 2, 1) := by decide +kernel
theorem dX0_longestStay_33 : decode cX0_longestStay 33 = .ok (.ireturn, 1) := by decide +kernel
theorem dX0_leastShare_0 : decode cX0_leastShare 0 = .ok (.iconst 0, 1) := by decide +kernel
theorem dX0_leastShare_1 : decode cX0_leastShare 1 = .ok (.istore_n 2, 1) := by decide +kernel
theorem dX0_leastShare_2 : decode cX0_leastShare 2 = .ok (.iload_n 2, 1) := by decide +kernel
theorem dX0_leastShare_3 : decode cX0_leastShare 3 = .ok (.iconst 4, 1) := by decide +kernel
theorem dX0_leastShare_4 : decode cX0_leastShare 4 = .ok (.if_icmp .ge 16, 3) := by decide +kernel
theorem dX0_leastShare_7 : decode cX0_leastShare 7 = .ok (.aload_n 0, 1) := by decide +kernel
theorem dX0_leastShare_8 : decode cX0_leastShare 8 = .ok (.getfield 21, 3) := by decide +kernel
theorem dX0_leastShare_11 : decode cX0_leastShare 11 = .ok (.iload_n 2, 1) := by decide +kernel
theorem dX0_leastShare_12 : decode cX0_leastShare 12 = .ok (.iconst 0, 1) := by decide +kernel
theorem dX0_leastShare_13 : decode cX0_leastShare 13 = .ok (.iastore, 1) := by decide +kernel
theorem dX0_leastShare_14 : decode cX0_leastShare 14 = .ok (.iinc 2 1, 3) := by decide +kernel
theorem dX0_leastShare_17 : decode cX0_leastShare 17 = .ok (.goto (-15), 3) := by decide +kernel
theorem dX0_leastShare_20 : decode cX0_leastShare 20 = .ok (.iconst 1, 1) := by decide +kernel
theorem dX0_leastShare_21 : decode cX0_leastShare 21 = .ok (.istore_n 2, 1) := by decide +kernel
theorem dX0_leastShare_22 : decode cX0_leastShare 22 = .ok (.iconst 0, 1) := by decide +kernel
theorem dX0_leastShare_23 : decode cX0_leastShare 23 = .ok (.istore_n 3, 1) := by decide +kernel
theorem dX0_leastShare_24 : decode cX0_leastShare 24 = .ok (.iconst 0, 1) := by decide +kernel
theorem dX0_leastShare_25 : decode cX0_leastShare 25 = .ok (.istore 4, 2) := by decide +kernel
theorem dX0_leastShare_27 : decode cX0_leastShare 27 = .ok (.iconst 0, 1) := by decide +kernel
theorem dX0_leastShare_28 : decode cX0_leastShare 28 = .ok (.istore 5, 2) := by decide +kernel
theorem dX0_leastShare_30 : decode cX0_leastShare 30 = .ok (.iload 5, 2) := by decide +kernel
theorem dX0_leastShare_32 : decode cX0_leastShare 32 = .ok (.aload_n 1, 1) := by decide +kernel
theorem dX0_leastShare_33 : decode cX0_leastShare 33 = .ok (.getfield 32, 3) := by decide +kernel
theorem dX0_leastShare_36 : decode cX0_leastShare 36 = .ok (.if_icmp .ge 93, 3) := by decide +kernel
theorem dX0_leastShare_39 : decode cX0_leastShare 39 = .ok (.iload_n 3, 1) := by decide +kernel
theorem dX0_leastShare_40 : decode cX0_leastShare 40 = .ok (.aload_n 1, 1) := by decide +kernel
theorem dX0_leastShare_41 : decode cX0_leastShare 41 = .ok (.getfield 38, 3) := by decide +kernel
theorem dX0_leastShare_44 : decode cX0_leastShare 44 = .ok (.iload 5, 2) := by decide +kernel
theorem dX0_leastShare_46 : decode cX0_leastShare 46 = .ok (.iaload, 1) := by decide +kernel
theorem dX0_leastShare_47 : decode cX0_leastShare 47 = .ok (.if_icmp .ge 19, 3) := by decide +kernel
theorem dX0_leastShare_50 : decode cX0_leastShare 50 = .ok (.iload 4, 2) := by decide +kernel
theorem dX0_leastShare_52 : decode cX0_leastShare 52 = .ok (.aload_n 0, 1) := by decide +kernel
theorem dX0_leastShare_53 : decode cX0_leastShare 53 = .ok (.iload_n 3, 1) := by decide +kernel
theorem dX0_leastShare_54 : decode cX0_leastShare 54 = .ok (.invokevirtual 73, 3) := by decide +kernel
theorem dX0_leastShare_57 : decode cX0_leastShare 57 = .ok (.isub, 1) := by decide +kernel
theorem dX0_leastShare_58 : decode cX0_leastShare 58 = .ok (.istore 4, 2) := by decide +kernel
theorem dX0_leastShare_60 : decode cX0_leastShare 60 = .ok (.iinc 3 1, 3) := by decide +kernel
theorem dX0_leastShare_63 : decode cX0_leastShare 63 = .ok (.goto (-24), 3) := by decide +kernel
theorem dX0_leastShare_66 : decode cX0_leastShare 66 = .ok (.aload_n 1, 1) := by decide +kernel
theorem dX0_leastShare_67 : decode cX0_leastShare 67 = .ok (.getfield 54, 3) := by decide +kernel
theorem dX0_leastShare_70 : decode cX0_leastShare 70 = .ok (.iload 5, 2) := by decide +kernel
theorem dX0_leastShare_72 : decode cX0_leastShare 72 = .ok (.iaload, 1) := by decide +kernel
theorem dX0_leastShare_73 : decode cX0_leastShare 73 = .ok (.istore 6, 2) := by decide +kernel
theorem dX0_leastShare_75 : decode cX0_leastShare 75 = .ok (.iload_n 2, 1) := by decide +kernel
theorem dX0_leastShare_76 : decode cX0_leastShare 76 = .ok (.aload_n 0, 1) := by decide +kernel
theorem dX0_leastShare_77 : decode cX0_leastShare 77 = .ok (.getfield 21, 3) := by decide +kernel
theorem dX0_leastShare_80 : decode cX0_leastShare 80 = .ok (.iload 6, 2) := by decide +kernel
theorem dX0_leastShare_82 : decode cX0_leastShare 82 = .ok (.iaload, 1) := by decide +kernel
theorem dX0_leastShare_83 : decode cX0_leastShare 83 = .ok (.aload_n 0, 1) := by decide +kernel
theorem dX0_leastShare_84 : decode cX0_leastShare 84 = .ok (.getfield 24, 3) := by decide +kernel
theorem dX0_leastShare_87 : decode cX0_leastShare 87 = .ok (.getfield 45, 3) := by decide +kernel
theorem dX0_leastShare_90 : decode cX0_leastShare 90 = .ok (.iload 4, 2) := by decide +kernel
theorem dX0_leastShare_92 : decode cX0_leastShare 92 = .ok (.isub, 1) := by decide +kernel
theorem dX0_leastShare_93 : decode cX0_leastShare 93 = .ok (.invokestatic 76, 3) := by decide +kernel
theorem dX0_leastShare_96 : decode cX0_leastShare 96 = .ok (.invokestatic 79, 3) := by decide +kernel
theorem dX0_leastShare_99 : decode cX0_leastShare 99 = .ok (.istore_n 2, 1) := by decide +kernel
theorem dX0_leastShare_100 : decode cX0_leastShare 100 = .ok (.iload_n 2, 1) := by decide +kernel
theorem dX0_leastShare_101 : decode cX0_leastShare 101 = .ok (.sipush 160, 3) := by decide +kernel
theorem dX0_leastShare_104 : decode cX0_leastShare 104 = .ok (.if_icmp .le 5, 3) := by decide +kernel
theorem dX0_leastShare_107 : decode cX0_leastShare 107 = .ok (.iconst (-1), 1) := by decide +kernel
theorem dX0_leastShare_108 : decode cX0_leastShare 108 = .ok (.ireturn, 1) := by decide +kernel
theorem dX0_leastShare_109 : decode cX0_leastShare 109 = .ok (.aload_n 0, 1) := by decide +kernel
theorem dX0_leastShare_110 : decode cX0_leastShare 110 = .ok (.getfield 21, 3) := by decide +kernel
theorem dX0_leastShare_113 : decode cX0_leastShare 113 = .ok (.iload 6, 2) := by decide +kernel
theorem dX0_leastShare_115 : decode cX0_leastShare 115 = .ok (.dup2, 1) := by decide +kernel
theorem dX0_leastShare_116 : decode cX0_leastShare 116 = .ok (.iaload, 1) := by decide +kernel
theorem dX0_leastShare_117 : decode cX0_leastShare 117 = .ok (.iconst 1, 1) := by decide +kernel
theorem dX0_leastShare_118 : decode cX0_leastShare 118 = .ok (.iadd, 1) := by decide +kernel
theorem dX0_leastShare_119 : decode cX0_leastShare 119 = .ok (.iastore, 1) := by decide +kernel
theorem dX0_leastShare_120 : decode cX0_leastShare 120 = .ok (.iinc 4 1, 3) := by decide +kernel
theorem dX0_leastShare_123 : decode cX0_leastShare 123 = .ok (.iinc 5 1, 3) := by decide +kernel
theorem dX0_leastShare_126 : decode cX0_leastShare 126 = .ok (.goto (-96), 3) := by decide +kernel
theorem dX0_leastShare_129 : decode cX0_leastShare 129 = .ok (.iload_n 2, 1) := by decide +kernel
theorem dX0_leastShare_130 : decode cX0_leastShare 130 = .ok (.ireturn, 1) := by decide +kernel
theorem dX0_shareToTake_0 : decode cX0_shareToTake 0 = .ok (.iload_n 1, 1) := by decide +kernel
theorem dX0_shareToTake_1 : decode cX0_shareToTake 1 = .ok (.ifCond .gt 9, 3) := by decide +kernel
theorem dX0_shareToTake_4 : decode cX0_shareToTake 4 = .ok (.sipush 161, 3) := by decide +kernel
theorem dX0_shareToTake_7 : decode cX0_shareToTake 7 = .ok (.goto 11, 3) := by decide +kernel
theorem dX0_shareToTake_10 : decode cX0_shareToTake 10 = .ok (.bipush 16, 2) := by decide +kernel
theorem dX0_shareToTake_12 : decode cX0_shareToTake 12 = .ok (.iload_n 0, 1) := by decide +kernel
theorem dX0_shareToTake_13 : decode cX0_shareToTake 13 = .ok (.imul, 1) := by decide +kernel
theorem dX0_shareToTake_14 : decode cX0_shareToTake 14 = .ok (.iload_n 1, 1) := by decide +kernel
theorem dX0_shareToTake_15 : decode cX0_shareToTake 15 = .ok (.idiv, 1) := by decide +kernel
theorem dX0_shareToTake_16 : decode cX0_shareToTake 16 = .ok (.iconst 1, 1) := by decide +kernel
theorem dX0_shareToTake_17 : decode cX0_shareToTake 17 = .ok (.iadd, 1) := by decide +kernel
theorem dX0_shareToTake_18 : decode cX0_shareToTake 18 = .ok (.ireturn, 1) := by decide +kernel
theorem dX0_passTick_0 : decode cX0_passTick 0 = .ok (.iconst 0, 1) := by decide +kernel
theorem dX0_passTick_1 : decode cX0_passTick 1 = .ok (.istore_n 2, 1) := by decide +kernel
theorem dX0_passTick_2 : decode cX0_passTick 2 = .ok (.iconst 0, 1) := by decide +kernel
theorem dX0_passTick_3 : decode cX0_passTick 3 = .ok (.istore_n 3, 1) := by decide +kernel
theorem dX0_passTick_4 : decode cX0_passTick 4 = .ok (.iload_n 3, 1) := by decide +kernel
theorem dX0_passTick_5 : decode cX0_passTick 5 = .ok (.aload_n 0, 1) := by decide +kernel
theorem dX0_passTick_6 : decode cX0_passTick 6 = .ok (.getfield 24, 3) := by decide +kernel
theorem dX0_passTick_9 : decode cX0_passTick 9 = .ok (.getfield 60, 3) := by decide +kernel
theorem dX0_passTick_12 : decode cX0_passTick 12 = .ok (.if_icmp .ge 47, 3) := by decide +kernel
theorem dX0_passTick_15 : decode cX0_passTick 15 = .ok (.aload_n 0, 1) := by decide +kernel
theorem dX0_passTick_16 : decode cX0_passTick 16 = .ok (.getfield 21, 3) := by decide +kernel
theorem dX0_passTick_19 : decode cX0_passTick 19 = .ok (.iload_n 3, 1) := by decide +kernel
theorem dX0_passTick_20 : decode cX0_passTick 20 = .ok (.iaload, 1) := by decide +kernel
theorem dX0_passTick_21 : decode cX0_passTick 21 = .ok (.ifCond .le 32, 3) := by decide +kernel
theorem dX0_passTick_24 : decode cX0_passTick 24 = .ok (.aload_n 0, 1) := by decide +kernel
theorem dX0_passTick_25 : decode cX0_passTick 25 = .ok (.getfield 24, 3) := by decide +kernel
theorem dX0_passTick_28 : decode cX0_passTick 28 = .ok (.getfield 63, 3) := by decide +kernel
theorem dX0_passTick_31 : decode cX0_passTick 31 = .ok (.iload_n 3, 1) := by decide +kernel
theorem dX0_passTick_32 : decode cX0_passTick 32 = .ok (.aaload, 1) := by decide +kernel
theorem dX0_passTick_33 : decode cX0_passTick 33 = .ok (.iload_n 1, 1) := by decide +kernel
theorem dX0_passTick_34 : decode cX0_passTick 34 = .ok (.invokevirtual 67, 3) := by decide +kernel
theorem dX0_passTick_37 : decode cX0_passTick 37 = .ok (.ifCond .eq 16, 3) := by decide +kernel
theorem dX0_passTick_40 : decode cX0_passTick 40 = .ok (.aload_n 0, 1) := by decide +kernel
theorem dX0_passTick_41 : decode cX0_passTick 41 = .ok (.getfield 21, 3) := by decide +kernel
theorem dX0_passTick_44 : decode cX0_passTick 44 = .ok (.iload_n 3, 1) := by decide +kernel
theorem dX0_passTick_45 : decode cX0_passTick 45 = .ok (.dup2, 1) := by decide +kernel
theorem dX0_passTick_46 : decode cX0_passTick 46 = .ok (.iaload, 1) := by decide +kernel
theorem dX0_passTick_47 : decode cX0_passTick 47 = .ok (.iconst 1, 1) := by decide +kernel
theorem dX0_passTick_48 : decode cX0_passTick 48 = .ok (.isub, 1) := by decide +kernel
theorem dX0_passTick_49 : decode cX0_passTick 49 = .ok (.iastore, 1) := by decide +kernel
theorem dX0_passTick_50 : decode cX0_passTick 50 = .ok (.iinc 2 1, 3) := by decide +kernel
theorem dX0_passTick_53 : decode cX0_passTick 53 = .ok (.iinc 3 1, 3) := by decide +kernel
theorem dX0_passTick_56 : decode cX0_passTick 56 = .ok (.goto (-52), 3) := by decide +kernel
theorem dX0_passTick_59 : decode cX0_passTick 59 = .ok (.iload_n 2, 1) := by decide +kernel
theorem dX0_passTick_60 : decode cX0_passTick 60 = .ok (.ireturn, 1) := by decide +kernel
theorem dX1_init_0 : decode cX1_init 0 = .ok (.aload_n 0, 1) := by decide +kernel
theorem dX1_init_1 : decode cX1_init 1 = .ok (.iload_n 1, 1) := by decide +kernel
theorem dX1_init_2 : decode cX1_init 2 = .ok (.invokespecial 3, 3) := by decide +kernel
theorem dX1_init_5 : decode cX1_init 5 = .ok (.aload_n 0, 1) := by decide +kernel
theorem dX1_init_6 : decode cX1_init 6 = .ok (.iconst 2, 1) := by decide +kernel
theorem dX1_init_7 : decode cX1_init 7 = .ok (.putfield 9, 3) := by decide +kernel
theorem dX1_init_10 : decode cX1_init 10 = .ok (.aload_n 0, 1) := by decide +kernel
theorem dX1_init_11 : decode cX1_init 11 = .ok (.iconst 1, 1) := by decide +kernel
theorem dX1_init_12 : decode cX1_init 12 = .ok (.putfield 15, 3) := by decide +kernel
theorem dX1_init_15 : decode cX1_init 15 = .ok (.aload_n 0, 1) := by decide +kernel
theorem dX1_init_16 : decode cX1_init 16 = .ok (.iconst 1, 1) := by decide +kernel
theorem dX1_init_17 : decode cX1_init 17 = .ok (.putfield 18, 3) := by decide +kernel
theorem dX1_init_20 : decode cX1_init 20 = .ok (.return_, 1) := by decide +kernel
theorem dX1_kindNumber_0 : decode cX1_kindNumber 0 = .ok (.iconst 2, 1) := by decide +kernel
theorem dX1_kindNumber_1 : decode cX1_kindNumber 1 = .ok (.ireturn, 1) := by decide +kernel
theorem dX1_bound_0 : decode cX1_bound 0 = .ok (.iload_n 1, 1) := by decide +kernel
theorem dX1_bound_1 : decode cX1_bound 1 = .ok (.tableswitch 42 3 5 #[27, 32, 37], 27) := by decide +kernel
theorem dX1_bound_28 : decode cX1_bound 28 = .ok (.aload_n 0, 1) := by decide +kernel
theorem dX1_bound_29 : decode cX1_bound 29 = .ok (.getfield 9, 3) := by decide +kernel
theorem dX1_bound_32 : decode cX1_bound 32 = .ok (.ireturn, 1) := by decide +kernel
theorem dX1_bound_33 : decode cX1_bound 33 = .ok (.aload_n 0, 1) := by decide +kernel
theorem dX1_bound_34 : decode cX1_bound 34 = .ok (.getfield 15, 3) := by decide +kernel
theorem dX1_bound_37 : decode cX1_bound 37 = .ok (.ireturn, 1) := by decide +kernel
theorem dX1_bound_38 : decode cX1_bound 38 = .ok (.aload_n 0, 1) := by decide +kernel
theorem dX1_bound_39 : decode cX1_bound 39 = .ok (.getfield 18, 3) := by decide +kernel
theorem dX1_bound_42 : decode cX1_bound 42 = .ok (.ireturn, 1) := by decide +kernel
theorem dX1_bound_43 : decode cX1_bound 43 = .ok (.aload_n 0, 1) := by decide +kernel
theorem dX1_bound_44 : decode cX1_bound 44 = .ok (.getfield 9, 3) := by decide +kernel
theorem dX1_bound_47 : decode cX1_bound 47 = .ok (.aload_n 0, 1) := by decide +kernel
theorem dX1_bound_48 : decode cX1_bound 48 = .ok (.getfield 18, 3) := by decide +kernel
theorem dX1_bound_51 : decode cX1_bound 51 = .ok (.iadd, 1) := by decide +kernel
theorem dX1_bound_52 : decode cX1_bound 52 = .ok (.ireturn, 1) := by decide +kernel
theorem dX1_tellsHalt_0 : decode cX1_tellsHalt 0 = .ok (.iload_n 1, 1) := by decide +kernel
theorem dX1_tellsHalt_1 : decode cX1_tellsHalt 1 = .ok (.aload_n 0, 1) := by decide +kernel
theorem dX1_tellsHalt_2 : decode cX1_tellsHalt 2 = .ok (.getfield 9, 3) := by decide +kernel
theorem dX1_tellsHalt_5 : decode cX1_tellsHalt 5 = .ok (.if_icmp .lt 5, 3) := by decide +kernel
theorem dX1_tellsHalt_8 : decode cX1_tellsHalt 8 = .ok (.iconst 1, 1) := by decide +kernel
theorem dX1_tellsHalt_9 : decode cX1_tellsHalt 9 = .ok (.ireturn, 1) := by decide +kernel
theorem dX1_tellsHalt_10 : decode cX1_tellsHalt 10 = .ok (.iload_n 1, 1) := by decide +kernel
theorem dX1_tellsHalt_11 : decode cX1_tellsHalt 11 = .ok (.aload_n 0, 1) := by decide +kernel
theorem dX1_tellsHalt_12 : decode cX1_tellsHalt 12 = .ok (.getfield 15, 3) := by decide +kernel
theorem dX1_tellsHalt_15 : decode cX1_tellsHalt 15 = .ok (.if_icmp .le 11, 3) := by decide +kernel
theorem dX1_tellsHalt_18 : decode cX1_tellsHalt 18 = .ok (.iload_n 2, 1) := by decide +kernel
theorem dX1_tellsHalt_19 : decode cX1_tellsHalt 19 = .ok (.ifCond .eq 7, 3) := by decide +kernel
theorem dX1_tellsHalt_22 : decode cX1_tellsHalt 22 = .ok (.iconst 1, 1) := by decide +kernel
theorem dX1_tellsHalt_23 : decode cX1_tellsHalt 23 = .ok (.goto 4, 3) := by decide +kernel
theorem dX1_tellsHalt_26 : decode cX1_tellsHalt 26 = .ok (.iconst 0, 1) := by decide +kernel
theorem dX1_tellsHalt_27 : decode cX1_tellsHalt 27 = .ok (.ireturn, 1) := by decide +kernel
theorem dX2_init_0 : decode cX2_init 0 = .ok (.aload_n 0, 1) := by decide +kernel
theorem dX2_init_1 : decode cX2_init 1 = .ok (.invokespecial 3, 3) := by decide +kernel
theorem dX2_init_4 : decode cX2_init 4 = .ok (.aload_n 0, 1) := by decide +kernel
theorem dX2_init_5 : decode cX2_init 5 = .ok (.iconst 1, 1) := by decide +kernel
theorem dX2_init_6 : decode cX2_init 6 = .ok (.putfield 9, 3) := by decide +kernel
theorem dX2_init_9 : decode cX2_init 9 = .ok (.aload_n 0, 1) := by decide +kernel
theorem dX2_init_10 : decode cX2_init 10 = .ok (.iload_n 1, 1) := by decide +kernel
theorem dX2_init_11 : decode cX2_init 11 = .ok (.putfield 15, 3) := by decide +kernel
theorem dX2_init_14 : decode cX2_init 14 = .ok (.return_, 1) := by decide +kernel
theorem dX2_kindNumber_0 : decode cX2_kindNumber 0 = .ok (.iconst 0, 1) := by decide +kernel
theorem dX2_kindNumber_1 : decode cX2_kindNumber 1 = .ok (.ireturn, 1) := by decide +kernel
theorem dX2_keptPart_0 : decode cX2_keptPart 0 = .ok (.iconst 0, 1) := by decide +kernel
theorem dX2_keptPart_1 : decode cX2_keptPart 1 = .ok (.ireturn, 1) := by decide +kernel
theorem dX2_sendsAt_0 : decode cX2_sendsAt 0 = .ok (.aload_n 0, 1) := by decide +kernel
theorem dX2_sendsAt_1 : decode cX2_sendsAt 1 = .ok (.getfield 9, 3) := by decide +kernel
theorem dX2_sendsAt_4 : decode cX2_sendsAt 4 = .ok (.ifCond .le 18, 3) := by decide +kernel
theorem dX2_sendsAt_7 : decode cX2_sendsAt 7 = .ok (.iload_n 1, 1) := by decide +kernel
theorem dX2_sendsAt_8 : decode cX2_sendsAt 8 = .ok (.iconst 1, 1) := by decide +kernel
theorem dX2_sendsAt_9 : decode cX2_sendsAt 9 = .ok (.iadd, 1) := by decide +kernel
theorem dX2_sendsAt_10 : decode cX2_sendsAt 10 = .ok (.aload_n 0, 1) := by decide +kernel
theorem dX2_sendsAt_11 : decode cX2_sendsAt 11 = .ok (.getfield 9, 3) := by decide +kernel
theorem dX2_sendsAt_14 : decode cX2_sendsAt 14 = .ok (.irem, 1) := by decide +kernel
theorem dX2_sendsAt_15 : decode cX2_sendsAt 15 = .ok (.ifCond .ne 7, 3) := by decide +kernel
theorem dX2_sendsAt_18 : decode cX2_sendsAt 18 = .ok (.iconst 1, 1) := by decide +kernel
theorem dX2_sendsAt_19 : decode cX2_sendsAt 19 = .ok (.goto 4, 3) := by decide +kernel
theorem dX2_sendsAt_22 : decode cX2_sendsAt 22 = .ok (.iconst 0, 1) := by decide +kernel
theorem dX2_sendsAt_23 : decode cX2_sendsAt 23 = .ok (.ireturn, 1) := by decide +kernel
theorem dX3_init_0 : decode cX3_init 0 = .ok (.aload_n 0, 1) := by decide +kernel
theorem dX3_init_1 : decode cX3_init 1 = .ok (.invokespecial 3, 3) := by decide +kernel
theorem dX3_init_4 : decode cX3_init 4 = .ok (.aload_n 0, 1) := by decide +kernel
theorem dX3_init_5 : decode cX3_init 5 = .ok (.bipush 12, 2) := by decide +kernel
theorem dX3_init_7 : decode cX3_init 7 = .ok (.newarray .int, 2) := by decide +kernel
theorem dX3_init_9 : decode cX3_init 9 = .ok (.putfield 9, 3) := by decide +kernel
theorem dX3_init_12 : decode cX3_init 12 = .ok (.return_, 1) := by decide +kernel
theorem dX3_addLast_0 : decode cX3_addLast 0 = .ok (.aload_n 0, 1) := by decide +kernel
theorem dX3_addLast_1 : decode cX3_addLast 1 = .ok (.getfield 9, 3) := by decide +kernel
theorem dX3_addLast_4 : decode cX3_addLast 4 = .ok (.aload_n 0, 1) := by decide +kernel
theorem dX3_addLast_5 : decode cX3_addLast 5 = .ok (.getfield 15, 3) := by decide +kernel
theorem dX3_addLast_8 : decode cX3_addLast 8 = .ok (.aload_n 0, 1) := by decide +kernel
theorem dX3_addLast_9 : decode cX3_addLast 9 = .ok (.getfield 19, 3) := by decide +kernel
theorem dX3_addLast_12 : decode cX3_addLast 12 = .ok (.iadd, 1) := by decide +kernel
theorem dX3_addLast_13 : decode cX3_addLast 13 = .ok (.bipush 12, 2) := by decide +kernel
theorem dX3_addLast_15 : decode cX3_addLast 15 = .ok (.irem, 1) := by decide +kernel
theorem dX3_addLast_16 : decode cX3_addLast 16 = .ok (.iload_n 1, 1) := by decide +kernel
theorem dX3_addLast_17 : decode cX3_addLast 17 = .ok (.iastore, 1) := by decide +kernel
theorem dX3_addLast_18 : decode cX3_addLast 18 = .ok (.aload_n 0, 1) := by decide +kernel
theorem dX3_addLast_19 : decode cX3_addLast 19 = .ok (.dup, 1) := by decide +kernel
theorem dX3_addLast_20 : decode cX3_addLast 20 = .ok (.getfield 19, 3) := by decide +kernel
theorem dX3_addLast_23 : decode cX3_addLast 23 = .ok (.iconst 1, 1) := by decide +kernel
theorem dX3_addLast_24 : decode cX3_addLast 24 = .ok (.iadd, 1) := by decide +kernel
theorem dX3_addLast_25 : decode cX3_addLast 25 = .ok (.putfield 19, 3) := by decide +kernel
theorem dX3_addLast_28 : decode cX3_addLast 28 = .ok (.return_, 1) := by decide +kernel
theorem dX3_removeFirst_0 : decode cX3_removeFirst 0 = .ok (.aload_n 0, 1) := by decide +kernel
theorem dX3_removeFirst_1 : decode cX3_removeFirst 1 = .ok (.getfield 9, 3) := by decide +kernel
theorem dX3_removeFirst_4 : decode cX3_removeFirst 4 = .ok (.aload_n 0, 1) := by decide +kernel
theorem dX3_removeFirst_5 : decode cX3_removeFirst 5 = .ok (.getfield 15, 3) := by decide +kernel
theorem dX3_removeFirst_8 : decode cX3_removeFirst 8 = .ok (.iaload, 1) := by decide +kernel
theorem dX3_removeFirst_9 : decode cX3_removeFirst 9 = .ok (.istore_n 1, 1) := by decide +kernel
theorem dX3_removeFirst_10 : decode cX3_removeFirst 10 = .ok (.aload_n 0, 1) := by decide +kernel
theorem dX3_removeFirst_11 : decode cX3_removeFirst 11 = .ok (.aload_n 0, 1) := by decide +kernel
theorem dX3_removeFirst_12 : decode cX3_removeFirst 12 = .ok (.getfield 15, 3) := by decide +kernel
theorem dX3_removeFirst_15 : decode cX3_removeFirst 15 = .ok (.iconst 1, 1) := by decide +kernel
theorem dX3_removeFirst_16 : decode cX3_removeFirst 16 = .ok (.iadd, 1) := by decide +kernel
theorem dX3_removeFirst_17 : decode cX3_removeFirst 17 = .ok (.bipush 12, 2) := by decide +kernel
theorem dX3_removeFirst_19 : decode cX3_removeFirst 19 = .ok (.irem, 1) := by decide +kernel
theorem dX3_removeFirst_20 : decode cX3_removeFirst 20 = .ok (.putfield 15, 3) := by decide +kernel
theorem dX3_removeFirst_23 : decode cX3_removeFirst 23 = .ok (.aload_n 0, 1) := by decide +kernel
theorem dX3_removeFirst_24 : decode cX3_removeFirst 24 = .ok (.dup, 1) := by decide +kernel
theorem dX3_removeFirst_25 : decode cX3_removeFirst 25 = .ok (.getfield 19, 3) := by decide +kernel
theorem dX3_removeFirst_28 : decode cX3_removeFirst 28 = .ok (.iconst 1, 1) := by decide +kernel
theorem dX3_removeFirst_29 : decode cX3_removeFirst 29 = .ok (.isub, 1) := by decide +kernel
theorem dX3_removeFirst_30 : decode cX3_removeFirst 30 = .ok (.putfield 19, 3) := by decide +kernel
theorem dX3_removeFirst_33 : decode cX3_removeFirst 33 = .ok (.iload_n 1, 1) := by decide +kernel
theorem dX3_removeFirst_34 : decode cX3_removeFirst 34 = .ok (.ireturn, 1) := by decide +kernel
theorem dX3_removeLast_0 : decode cX3_removeLast 0 = .ok (.aload_n 0, 1) := by decide +kernel
theorem dX3_removeLast_1 : decode cX3_removeLast 1 = .ok (.dup, 1) := by decide +kernel
theorem dX3_removeLast_2 : decode cX3_removeLast 2 = .ok (.getfield 19, 3) := by decide +kernel
theorem dX3_removeLast_5 : decode cX3_removeLast 5 = .ok (.iconst 1, 1) := by decide +kernel
theorem dX3_removeLast_6 : decode cX3_removeLast 6 = .ok (.isub, 1) := by decide +kernel
theorem dX3_removeLast_7 : decode cX3_removeLast 7 = .ok (.putfield 19, 3) := by decide +kernel
theorem dX3_removeLast_10 : decode cX3_removeLast 10 = .ok (.aload_n 0, 1) := by decide +kernel
theorem dX3_removeLast_11 : decode cX3_removeLast 11 = .ok (.getfield 9, 3) := by decide +kernel
theorem dX3_removeLast_14 : decode cX3_removeLast 14 = .ok (.aload_n 0, 1) := by decide +kernel
theorem dX3_removeLast_15 : decode cX3_removeLast 15 = .ok (.getfield 15, 3) := by decide +kernel
theorem dX3_removeLast_18 : decode cX3_removeLast 18 = .ok (.aload_n 0, 1) := by decide +kernel
theorem dX3_removeLast_19 : decode cX3_removeLast 19 = .ok (.getfield 19, 3) := by decide +kernel
theorem dX3_removeLast_22 : decode cX3_removeLast 22 = .ok (.iadd, 1) := by decide +kernel
theorem dX3_removeLast_23 : decode cX3_removeLast 23 = .ok (.bipush 12, 2) := by decide +kernel
theorem dX3_removeLast_25 : decode cX3_removeLast 25 = .ok (.irem, 1) := by decide +kernel
theorem dX3_removeLast_26 : decode cX3_removeLast 26 = .ok (.iaload, 1) := by decide +kernel
theorem dX3_removeLast_27 : decode cX3_removeLast 27 = .ok (.ireturn, 1) := by decide +kernel
theorem dX4_init_0 : decode cX4_init 0 = .ok (.aload_n 0, 1) := by decide +kernel
theorem dX4_init_1 : decode cX4_init 1 = .ok (.invokespecial 3, 3) := by decide +kernel
theorem dX4_init_4 : decode cX4_init 4 = .ok (.aload_n 0, 1) := by decide +kernel
theorem dX4_init_5 : decode cX4_init 5 = .ok (.bipush 80, 2) := by decide +kernel
theorem dX4_init_7 : decode cX4_init 7 = .ok (.newarray .int, 2) := by decide +kernel
theorem dX4_init_9 : decode cX4_init 9 = .ok (.putfield 9, 3) := by decide +kernel
theorem dX4_init_12 : decode cX4_init 12 = .ok (.aload_n 0, 1) := by decide +kernel
theorem dX4_init_13 : decode cX4_init 13 = .ok (.bipush 80, 2) := by decide +kernel
theorem dX4_init_15 : decode cX4_init 15 = .ok (.newarray .int, 2) := by decide +kernel
theorem dX4_init_17 : decode cX4_init 17 = .ok (.putfield 15, 3) := by decide +kernel
theorem dX4_init_20 : decode cX4_init 20 = .ok (.return_, 1) := by decide +kernel
theorem dX4_lastTick_0 : decode cX4_lastTick 0 = .ok (.aload_n 0, 1) := by decide +kernel
theorem dX4_lastTick_1 : decode cX4_lastTick 1 = .ok (.getfield 18, 3) := by decide +kernel
theorem dX4_lastTick_4 : decode cX4_lastTick 4 = .ok (.ifCond .ne 7, 3) := by decide +kernel
theorem dX4_lastTick_7 : decode cX4_lastTick 7 = .ok (.iconst 0, 1) := by decide +kernel
theorem dX4_lastTick_8 : decode cX4_lastTick 8 = .ok (.goto 14, 3) := by decide +kernel
theorem dX4_lastTick_11 : decode cX4_lastTick 11 = .ok (.aload_n 0, 1) := by decide +kernel
theorem dX4_lastTick_12 : decode cX4_lastTick 12 = .ok (.getfield 9, 3) := by decide +kernel
theorem dX4_lastTick_15 : decode cX4_lastTick 15 = .ok (.aload_n 0, 1) := by decide +kernel
theorem dX4_lastTick_16 : decode cX4_lastTick 16 = .ok (.getfield 18, 3) := by decide +kernel
theorem dX4_lastTick_19 : decode cX4_lastTick 19 = .ok (.iconst 1, 1) := by decide +kernel
theorem dX4_lastTick_20 : decode cX4_lastTick 20 = .ok (.isub, 1) := by decide +kernel
theorem dX4_lastTick_21 : decode cX4_lastTick 21 = .ok (.iaload, 1) := by decide +kernel
theorem dX4_lastTick_22 : decode cX4_lastTick 22 = .ok (.ireturn, 1) := by decide +kernel
theorem dX4_addLetters_0 : decode cX4_addLetters 0 = .ok (.iconst 0, 1) := by decide +kernel
theorem dX4_addLetters_1 : decode cX4_addLetters 1 = .ok (.istore 4, 2) := by decide +kernel
theorem dX4_addLetters_3 : decode cX4_addLetters 3 = .ok (.iload 4, 2) := by decide +kernel
theorem dX4_addLetters_5 : decode cX4_addLetters 5 = .ok (.iload_n 3, 1) := by decide +kernel
theorem dX4_addLetters_6 : decode cX4_addLetters 6 = .ok (.if_icmp .ge 61, 3) := by decide +kernel
theorem dX4_addLetters_9 : decode cX4_addLetters 9 = .ok (.aload_n 0, 1) := by decide +kernel
theorem dX4_addLetters_10 : decode cX4_addLetters 10 = .ok (.getfield 9, 3) := by decide +kernel
theorem dX4_addLetters_13 : decode cX4_addLetters 13 = .ok (.aload_n 0, 1) := by decide +kernel
theorem dX4_addLetters_14 : decode cX4_addLetters 14 = .ok (.getfield 18, 3) := by decide +kernel
theorem dX4_addLetters_17 : decode cX4_addLetters 17 = .ok (.aload_n 1, 1) := by decide +kernel
theorem dX4_addLetters_18 : decode cX4_addLetters 18 = .ok (.getfield 22, 3) := by decide +kernel
theorem dX4_addLetters_21 : decode cX4_addLetters 21 = .ok (.iload_n 2, 1) := by decide +kernel
theorem dX4_addLetters_22 : decode cX4_addLetters 22 = .ok (.iconst 2, 1) := by decide +kernel
theorem dX4_addLetters_23 : decode cX4_addLetters 23 = .ok (.iload 4, 2) := by decide +kernel
theorem dX4_addLetters_25 : decode cX4_addLetters 25 = .ok (.imul, 1) := by decide +kernel
theorem dX4_addLetters_26 : decode cX4_addLetters 26 = .ok (.iadd, 1) := by decide +kernel
theorem dX4_addLetters_27 : decode cX4_addLetters 27 = .ok (.iaload, 1) := by decide +kernel
theorem dX4_addLetters_28 : decode cX4_addLetters 28 = .ok (.iastore, 1) := by decide +kernel
theorem dX4_addLetters_29 : decode cX4_addLetters 29 = .ok (.aload_n 0, 1) := by decide +kernel
theorem dX4_addLetters_30 : decode cX4_addLetters 30 = .ok (.getfield 15, 3) := by decide +kernel
theorem dX4_addLetters_33 : decode cX4_addLetters 33 = .ok (.aload_n 0, 1) := by decide +kernel
theorem dX4_addLetters_34 : decode cX4_addLetters 34 = .ok (.getfield 18, 3) := by decide +kernel
theorem dX4_addLetters_37 : decode cX4_addLetters 37 = .ok (.aload_n 1, 1) := by decide +kernel
theorem dX4_addLetters_38 : decode cX4_addLetters 38 = .ok (.getfield 22, 3) := by decide +kernel
theorem dX4_addLetters_41 : decode cX4_addLetters 41 = .ok (.iload_n 2, 1) := by decide +kernel
theorem dX4_addLetters_42 : decode cX4_addLetters 42 = .ok (.iconst 2, 1) := by decide +kernel
theorem dX4_addLetters_43 : decode cX4_addLetters 43 = .ok (.iload 4, 2) := by decide +kernel
theorem dX4_addLetters_45 : decode cX4_addLetters 45 = .ok (.imul, 1) := by decide +kernel
theorem dX4_addLetters_46 : decode cX4_addLetters 46 = .ok (.iadd, 1) := by decide +kernel
theorem dX4_addLetters_47 : decode cX4_addLetters 47 = .ok (.iconst 1, 1) := by decide +kernel
theorem dX4_addLetters_48 : decode cX4_addLetters 48 = .ok (.iadd, 1) := by decide +kernel
theorem dX4_addLetters_49 : decode cX4_addLetters 49 = .ok (.iaload, 1) := by decide +kernel
theorem dX4_addLetters_50 : decode cX4_addLetters 50 = .ok (.iastore, 1) := by decide +kernel
theorem dX4_addLetters_51 : decode cX4_addLetters 51 = .ok (.aload_n 0, 1) := by decide +kernel
theorem dX4_addLetters_52 : decode cX4_addLetters 52 = .ok (.dup, 1) := by decide +kernel
theorem dX4_addLetters_53 : decode cX4_addLetters 53 = .ok (.getfield 18, 3) := by decide +kernel
theorem dX4_addLetters_56 : decode cX4_addLetters 56 = .ok (.iconst 1, 1) := by decide +kernel
theorem dX4_addLetters_57 : decode cX4_addLetters 57 = .ok (.iadd, 1) := by decide +kernel
theorem dX4_addLetters_58 : decode cX4_addLetters 58 = .ok (.putfield 18, 3) := by decide +kernel
theorem dX4_addLetters_61 : decode cX4_addLetters 61 = .ok (.iinc 4 1, 3) := by decide +kernel
theorem dX4_addLetters_64 : decode cX4_addLetters 64 = .ok (.goto (-61), 3) := by decide +kernel
theorem dX4_addLetters_67 : decode cX4_addLetters 67 = .ok (.return_, 1) := by decide +kernel
theorem dX5_init_0 : decode cX5_init 0 = .ok (.aload_n 0, 1) := by decide +kernel
theorem dX5_init_1 : decode cX5_init 1 = .ok (.invokespecial 3, 3) := by decide +kernel
theorem dX5_init_4 : decode cX5_init 4 = .ok (.aload_n 0, 1) := by decide +kernel
theorem dX5_init_5 : decode cX5_init 5 = .ok (.iconst 4, 1) := by decide +kernel
theorem dX5_init_6 : decode cX5_init 6 = .ok (.anewarray 9, 3) := by decide +kernel
theorem dX5_init_9 : decode cX5_init 9 = .ok (.putfield 11, 3) := by decide +kernel
theorem dX5_init_12 : decode cX5_init 12 = .ok (.aload_n 0, 1) := by decide +kernel
theorem dX5_init_13 : decode cX5_init 13 = .ok (.bipush 80, 2) := by decide +kernel
theorem dX5_init_15 : decode cX5_init 15 = .ok (.newarray .int, 2) := by decide +kernel
theorem dX5_init_17 : decode cX5_init 17 = .ok (.putfield 17, 3) := by decide +kernel
theorem dX5_init_20 : decode cX5_init 20 = .ok (.aload_n 0, 1) := by decide +kernel
theorem dX5_init_21 : decode cX5_init 21 = .ok (.bipush 80, 2) := by decide +kernel
theorem dX5_init_23 : decode cX5_init 23 = .ok (.newarray .int, 2) := by decide +kernel
theorem dX5_init_25 : decode cX5_init 25 = .ok (.putfield 21, 3) := by decide +kernel
theorem dX5_init_28 : decode cX5_init 28 = .ok (.aload_n 0, 1) := by decide +kernel
theorem dX5_init_29 : decode cX5_init 29 = .ok (.bipush 80, 2) := by decide +kernel
theorem dX5_init_31 : decode cX5_init 31 = .ok (.newarray .int, 2) := by decide +kernel
theorem dX5_init_33 : decode cX5_init 33 = .ok (.putfield 24, 3) := by decide +kernel
theorem dX5_init_36 : decode cX5_init 36 = .ok (.aload_n 0, 1) := by decide +kernel
theorem dX5_init_37 : decode cX5_init 37 = .ok (.bipush 80, 2) := by decide +kernel
theorem dX5_init_39 : decode cX5_init 39 = .ok (.newarray .int, 2) := by decide +kernel
theorem dX5_init_41 : decode cX5_init 41 = .ok (.putfield 27, 3) := by decide +kernel
theorem dX5_init_44 : decode cX5_init 44 = .ok (.aload_n 0, 1) := by decide +kernel
theorem dX5_init_45 : decode cX5_init 45 = .ok (.bipush 80, 2) := by decide +kernel
theorem dX5_init_47 : decode cX5_init 47 = .ok (.newarray .int, 2) := by decide +kernel
theorem dX5_init_49 : decode cX5_init 49 = .ok (.putfield 30, 3) := by decide +kernel
theorem dX5_init_52 : decode cX5_init 52 = .ok (.aload_n 0, 1) := by decide +kernel
theorem dX5_init_53 : decode cX5_init 53 = .ok (.iconst 4, 1) := by decide +kernel
theorem dX5_init_54 : decode cX5_init 54 = .ok (.newarray .int, 2) := by decide +kernel
theorem dX5_init_56 : decode cX5_init 56 = .ok (.putfield 33, 3) := by decide +kernel
theorem dX5_init_59 : decode cX5_init 59 = .ok (.aload_n 0, 1) := by decide +kernel
theorem dX5_init_60 : decode cX5_init 60 = .ok (.iconst 4, 1) := by decide +kernel
theorem dX5_init_61 : decode cX5_init 61 = .ok (.newarray .int, 2) := by decide +kernel
theorem dX5_init_63 : decode cX5_init 63 = .ok (.putfield 36, 3) := by decide +kernel
theorem dX5_init_66 : decode cX5_init 66 = .ok (.aload_n 0, 1) := by decide +kernel
theorem dX5_init_67 : decode cX5_init 67 = .ok (.iconst 4, 1) := by decide +kernel
theorem dX5_init_68 : decode cX5_init 68 = .ok (.newarray .int, 2) := by decide +kernel
theorem dX5_init_70 : decode cX5_init 70 = .ok (.putfield 39, 3) := by decide +kernel
theorem dX5_init_73 : decode cX5_init 73 = .ok (.aload_n 0, 1) := by decide +kernel
theorem dX5_init_74 : decode cX5_init 74 = .ok (.aload_n 1, 1) := by decide +kernel
theorem dX5_init_75 : decode cX5_init 75 = .ok (.putfield 42, 3) := by decide +kernel
theorem dX5_init_78 : decode cX5_init 78 = .ok (.iconst 0, 1) := by decide +kernel
theorem dX5_init_79 : decode cX5_init 79 = .ok (.istore_n 2, 1) := by decide +kernel
theorem dX5_init_80 : decode cX5_init 80 = .ok (.iload_n 2, 1) := by decide +kernel
theorem dX5_init_81 : decode cX5_init 81 = .ok (.iconst 4, 1) := by decide +kernel
theorem dX5_init_82 : decode cX5_init 82 = .ok (.if_icmp .ge 22, 3) := by decide +kernel
theorem dX5_init_85 : decode cX5_init 85 = .ok (.aload_n 0, 1) := by decide +kernel
theorem dX5_init_86 : decode cX5_init 86 = .ok (.getfield 11, 3) := by decide +kernel
theorem dX5_init_89 : decode cX5_init 89 = .ok (.iload_n 2, 1) := by decide +kernel
theorem dX5_init_90 : decode cX5_init 90 = .ok (.new 9, 3) := by decide +kernel
theorem dX5_init_93 : decode cX5_init 93 = .ok (.dup, 1) := by decide +kernel
theorem dX5_init_94 : decode cX5_init 94 = .ok (.invokespecial 46, 3) := by decide +kernel
theorem dX5_init_97 : decode cX5_init 97 = .ok (.aastore, 1) := by decide +kernel
theorem dX5_init_98 : decode cX5_init 98 = .ok (.iinc 2 1, 3) := by decide +kernel
theorem dX5_init_101 : decode cX5_init 101 = .ok (.goto (-21), 3) := by decide +kernel
theorem dX5_init_104 : decode cX5_init 104 = .ok (.return_, 1) := by decide +kernel
theorem dX5_play_0 : decode cX5_play 0 = .ok (.aload_n 0, 1) := by decide +kernel
theorem dX5_play_1 : decode cX5_play 1 = .ok (.aload_n 1, 1) := by decide +kernel
theorem dX5_play_2 : decode cX5_play 2 = .ok (.invokevirtual 47, 3) := by decide +kernel
theorem dX5_play_5 : decode cX5_play 5 = .ok (.aload_n 0, 1) := by decide +kernel
theorem dX5_play_6 : decode cX5_play 6 = .ok (.iload_n 2, 1) := by decide +kernel
theorem dX5_play_7 : decode cX5_play 7 = .ok (.putfield 51, 3) := by decide +kernel
theorem dX5_play_10 : decode cX5_play 10 = .ok (.aload_n 0, 1) := by decide +kernel
theorem dX5_play_11 : decode cX5_play 11 = .ok (.iload_n 3, 1) := by decide +kernel
theorem dX5_play_12 : decode cX5_play 12 = .ok (.putfield 55, 3) := by decide +kernel
theorem dX5_play_15 : decode cX5_play 15 = .ok (.iconst 0, 1) := by decide +kernel
theorem dX5_play_16 : decode cX5_play 16 = .ok (.istore 4, 2) := by decide +kernel
theorem dX5_play_18 : decode cX5_play 18 = .ok (.iload 4, 2) := by decide +kernel
theorem dX5_play_20 : decode cX5_play 20 = .ok (.sipush 400, 3) := by decide +kernel
theorem dX5_play_23 : decode cX5_play 23 = .ok (.if_icmp .ge 55, 3) := by decide +kernel
theorem dX5_play_26 : decode cX5_play 26 = .ok (.aload_n 0, 1) := by decide +kernel
theorem dX5_play_27 : decode cX5_play 27 = .ok (.getfield 59, 3) := by decide +kernel
theorem dX5_play_30 : decode cX5_play 30 = .ok (.aload_n 0, 1) := by decide +kernel
theorem dX5_play_31 : decode cX5_play 31 = .ok (.getfield 62, 3) := by decide +kernel
theorem dX5_play_34 : decode cX5_play 34 = .ok (.iadd, 1) := by decide +kernel
theorem dX5_play_35 : decode cX5_play 35 = .ok (.ifCond .le 43, 3) := by decide +kernel
theorem dX5_play_38 : decode cX5_play 38 = .ok (.aload_n 0, 1) := by decide +kernel
theorem dX5_play_39 : decode cX5_play 39 = .ok (.iload 4, 2) := by decide +kernel
theorem dX5_play_41 : decode cX5_play 41 = .ok (.putfield 65, 3) := by decide +kernel
theorem dX5_play_44 : decode cX5_play 44 = .ok (.aload_n 0, 1) := by decide +kernel
theorem dX5_play_45 : decode cX5_play 45 = .ok (.aload_n 1, 1) := by decide +kernel
theorem dX5_play_46 : decode cX5_play 46 = .ok (.invokevirtual 68, 3) := by decide +kernel
theorem dX5_play_49 : decode cX5_play 49 = .ok (.aload_n 0, 1) := by decide +kernel
theorem dX5_play_50 : decode cX5_play 50 = .ok (.aload_n 1, 1) := by decide +kernel
theorem dX5_play_51 : decode cX5_play 51 = .ok (.invokevirtual 71, 3) := by decide +kernel
theorem dX5_play_54 : decode cX5_play 54 = .ok (.aload_n 0, 1) := by decide +kernel
theorem dX5_play_55 : decode cX5_play 55 = .ok (.invokevirtual 74, 3) := by decide +kernel
theorem dX5_play_58 : decode cX5_play 58 = .ok (.aload_n 0, 1) := by decide +kernel
theorem dX5_play_59 : decode cX5_play 59 = .ok (.invokevirtual 77, 3) := by decide +kernel
theorem dX5_play_62 : decode cX5_play 62 = .ok (.aload_n 0, 1) := by decide +kernel
theorem dX5_play_63 : decode cX5_play 63 = .ok (.dup, 1) := by decide +kernel
theorem dX5_play_64 : decode cX5_play 64 = .ok (.getfield 80, 3) := by decide +kernel
theorem dX5_play_67 : decode cX5_play 67 = .ok (.iconst 1, 1) := by decide +kernel
theorem dX5_play_68 : decode cX5_play 68 = .ok (.iadd, 1) := by decide +kernel
theorem dX5_play_69 : decode cX5_play 69 = .ok (.putfield 80, 3) := by decide +kernel
theorem dX5_play_72 : decode cX5_play 72 = .ok (.iinc 4 1, 3) := by decide +kernel
theorem dX5_play_75 : decode cX5_play 75 = .ok (.goto (-57), 3) := by decide +kernel
theorem dX5_play_78 : decode cX5_play 78 = .ok (.aload_n 0, 1) := by decide +kernel
theorem dX5_play_79 : decode cX5_play 79 = .ok (.invokevirtual 83, 3) := by decide +kernel
theorem dX5_play_82 : decode cX5_play 82 = .ok (.return_, 1) := by decide +kernel
theorem dX5_begin_0 : decode cX5_begin 0 = .ok (.aload_n 0, 1) := by decide +kernel
theorem dX5_begin_1 : decode cX5_begin 1 = .ok (.aload_n 1, 1) := by decide +kernel
theorem dX5_begin_2 : decode cX5_begin 2 = .ok (.getfield 86, 3) := by decide +kernel
theorem dX5_begin_5 : decode cX5_begin 5 = .ok (.putfield 91, 3) := by decide +kernel
theorem dX5_begin_8 : decode cX5_begin 8 = .ok (.aload_n 0, 1) := by decide +kernel
theorem dX5_begin_9 : decode cX5_begin 9 = .ok (.aload_n 1, 1) := by decide +kernel
theorem dX5_begin_10 : decode cX5_begin 10 = .ok (.getfield 86, 3) := by decide +kernel
theorem dX5_begin_13 : decode cX5_begin 13 = .ok (.putfield 59, 3) := by decide +kernel
theorem dX5_begin_16 : decode cX5_begin 16 = .ok (.aload_n 0, 1) := by decide +kernel
theorem dX5_begin_17 : decode cX5_begin 17 = .ok (.iconst 0, 1) := by decide +kernel
theorem dX5_begin_18 : decode cX5_begin 18 = .ok (.putfield 94, 3) := by decide +kernel
theorem dX5_begin_21 : decode cX5_begin 21 = .ok (.aload_n 0, 1) := by decide +kernel
theorem dX5_begin_22 : decode cX5_begin 22 = .ok (.iconst 0, 1) := by decide +kernel
theorem dX5_begin_23 : decode cX5_begin 23 = .ok (.putfield 80, 3) := by decide +kernel
theorem dX5_begin_26 : decode cX5_begin 26 = .ok (.aload_n 0, 1) := by decide +kernel
theorem dX5_begin_27 : decode cX5_begin 27 = .ok (.iconst 0, 1) := by decide +kernel
theorem dX5_begin_28 : decode cX5_begin 28 = .ok (.putfield 62, 3) := by decide +kernel
theorem dX5_begin_31 : decode cX5_begin 31 = .ok (.aload_n 0, 1) := by decide +kernel
theorem dX5_begin_32 : decode cX5_begin 32 = .ok (.iconst 0, 1) := by decide +kernel
theorem dX5_begin_33 : decode cX5_begin 33 = .ok (.putfield 97, 3) := by decide +kernel
theorem dX5_begin_36 : decode cX5_begin 36 = .ok (.iconst 0, 1) := by decide +kernel
theorem dX5_begin_37 : decode cX5_begin 37 = .ok (.istore_n 2, 1) := by decide +kernel
theorem dX5_begin_38 : decode cX5_begin 38 = .ok (.iload_n 2, 1) := by decide +kernel
theorem dX5_begin_39 : decode cX5_begin 39 = .ok (.aload_n 0, 1) := by decide +kernel
theorem dX5_begin_40 : decode cX5_begin 40 = .ok (.getfield 91, 3) := by decide +kernel
theorem dX5_begin_43 : decode cX5_begin 43 = .ok (.if_icmp .ge 47, 3) := by decide +kernel
theorem dX5_begin_46 : decode cX5_begin 46 = .ok (.aload_n 0, 1) := by decide +kernel
theorem dX5_begin_47 : decode cX5_begin 47 = .ok (.getfield 17, 3) := by decide +kernel
theorem dX5_begin_50 : decode cX5_begin 50 = .ok (.iload_n 2, 1) := by decide +kernel
theorem dX5_begin_51 : decode cX5_begin 51 = .ok (.aload_n 1, 1) := by decide +kernel
theorem dX5_begin_52 : decode cX5_begin 52 = .ok (.getfield 100, 3) := by decide +kernel
theorem dX5_begin_55 : decode cX5_begin 55 = .ok (.iload_n 2, 1) := by decide +kernel
theorem dX5_begin_56 : decode cX5_begin 56 = .ok (.iaload, 1) := by decide +kernel
theorem dX5_begin_57 : decode cX5_begin 57 = .ok (.iastore, 1) := by decide +kernel
theorem dX5_begin_58 : decode cX5_begin 58 = .ok (.aload_n 0, 1) := by decide +kernel
theorem dX5_begin_59 : decode cX5_begin 59 = .ok (.getfield 21, 3) := by decide +kernel
theorem dX5_begin_62 : decode cX5_begin 62 = .ok (.iload_n 2, 1) := by decide +kernel
theorem dX5_begin_63 : decode cX5_begin 63 = .ok (.sipush 400, 3) := by decide +kernel
theorem dX5_begin_66 : decode cX5_begin 66 = .ok (.iastore, 1) := by decide +kernel
theorem dX5_begin_67 : decode cX5_begin 67 = .ok (.aload_n 0, 1) := by decide +kernel
theorem dX5_begin_68 : decode cX5_begin 68 = .ok (.iload_n 2, 1) := by decide +kernel
theorem dX5_begin_69 : decode cX5_begin 69 = .ok (.iconst 3, 1) := by decide +kernel
theorem dX5_begin_70 : decode cX5_begin 70 = .ok (.sipush 400, 3) := by decide +kernel
theorem dX5_begin_73 : decode cX5_begin 73 = .ok (.invokevirtual 101, 3) := by decide +kernel
theorem dX5_begin_76 : decode cX5_begin 76 = .ok (.aload_n 0, 1) := by decide +kernel
theorem dX5_begin_77 : decode cX5_begin 77 = .ok (.getfield 30, 3) := by decide +kernel
theorem dX5_begin_80 : decode cX5_begin 80 = .ok (.iload_n 2, 1) := by decide +kernel
theorem dX5_begin_81 : decode cX5_begin 81 = .ok (.bipush (-2), 2) := by decide +kernel
theorem dX5_begin_83 : decode cX5_begin 83 = .ok (.iastore, 1) := by decide +kernel
theorem dX5_begin_84 : decode cX5_begin 84 = .ok (.iinc 2 1, 3) := by decide +kernel
theorem dX5_begin_87 : decode cX5_begin 87 = .ok (.goto (-49), 3) := by decide +kernel
theorem dX5_begin_90 : decode cX5_begin 90 = .ok (.iconst 0, 1) := by decide +kernel
theorem dX5_begin_91 : decode cX5_begin 91 = .ok (.istore_n 2, 1) := by decide +kernel
theorem dX5_begin_92 : decode cX5_begin 92 = .ok (.iload_n 2, 1) := by decide +kernel
theorem dX5_begin_93 : decode cX5_begin 93 = .ok (.iconst 4, 1) := by decide +kernel
theorem dX5_begin_94 : decode cX5_begin 94 = .ok (.if_icmp .ge 30, 3) := by decide +kernel
theorem dX5_begin_97 : decode cX5_begin 97 = .ok (.aload_n 0, 1) := by decide +kernel
theorem dX5_begin_98 : decode cX5_begin 98 = .ok (.getfield 33, 3) := by decide +kernel
theorem dX5_begin_101 : decode cX5_begin 101 = .ok (.iload_n 2, 1) := by decide +kernel
theorem dX5_begin_102 : decode cX5_begin 102 = .ok (.iconst 0, 1) := by decide +kernel
theorem dX5_begin_103 : decode cX5_begin 103 = .ok (.iastore, 1) := by decide +kernel
theorem dX5_begin_104 : decode cX5_begin 104 = .ok (.aload_n 0, 1) := by decide +kernel
theorem dX5_begin_105 : decode cX5_begin 105 = .ok (.getfield 36, 3) := by decide +kernel
theorem dX5_begin_108 : decode cX5_begin 108 = .ok (.iload_n 2, 1) := by decide +kernel
theorem dX5_begin_109 : decode cX5_begin 109 = .ok (.iconst 0, 1) := by decide +kernel
theorem dX5_begin_110 : decode cX5_begin 110 = .ok (.iastore, 1) := by decide +kernel
theorem dX5_begin_111 : decode cX5_begin 111 = .ok (.aload_n 0, 1) := by decide +kernel
theorem dX5_begin_112 : decode cX5_begin 112 = .ok (.getfield 39, 3) := by decide +kernel
theorem dX5_begin_115 : decode cX5_begin 115 = .ok (.iload_n 2, 1) := by decide +kernel
theorem dX5_begin_116 : decode cX5_begin 116 = .ok (.iconst 0, 1) := by decide +kernel
theorem dX5_begin_117 : decode cX5_begin 117 = .ok (.iastore, 1) := by decide +kernel
theorem dX5_begin_118 : decode cX5_begin 118 = .ok (.iinc 2 1, 3) := by decide +kernel
theorem dX5_begin_121 : decode cX5_begin 121 = .ok (.goto (-29), 3) := by decide +kernel
theorem dX5_begin_124 : decode cX5_begin 124 = .ok (.return_, 1) := by decide +kernel
theorem dX5_settle_0 : decode cX5_settle 0 = .ok (.aload_n 0, 1) := by decide +kernel
theorem dX5_settle_1 : decode cX5_settle 1 = .ok (.getfield 24, 3) := by decide +kernel
theorem dX5_settle_4 : decode cX5_settle 4 = .ok (.iload_n 1, 1) := by decide +kernel
theorem dX5_settle_5 : decode cX5_settle 5 = .ok (.iload_n 2, 1) := by decide +kernel
theorem dX5_settle_6 : decode cX5_settle 6 = .ok (.iastore, 1) := by decide +kernel
theorem dX5_settle_7 : decode cX5_settle 7 = .ok (.aload_n 0, 1) := by decide +kernel
theorem dX5_settle_8 : decode cX5_settle 8 = .ok (.getfield 27, 3) := by decide +kernel
theorem dX5_settle_11 : decode cX5_settle 11 = .ok (.iload_n 1, 1) := by decide +kernel
theorem dX5_settle_12 : decode cX5_settle 12 = .ok (.iload_n 3, 1) := by decide +kernel
theorem dX5_settle_13 : decode cX5_settle 13 = .ok (.iastore, 1) := by decide +kernel
theorem dX5_settle_14 : decode cX5_settle 14 = .ok (.return_, 1) := by decide +kernel
theorem dX5_offerHeld_0 : decode cX5_offerHeld 0 = .ok (.iconst 0, 1) := by decide +kernel
theorem dX5_offerHeld_1 : decode cX5_offerHeld 1 = .ok (.istore_n 2, 1) := by decide +kernel
theorem dX5_offerHeld_2 : decode cX5_offerHeld 2 = .ok (.iload_n 2, 1) := by decide +kernel
theorem dX5_offerHeld_3 : decode cX5_offerHeld 3 = .ok (.aload_n 0, 1) := by decide +kernel
theorem dX5_offerHeld_4 : decode cX5_offerHeld 4 = .ok (.getfield 42, 3) := by decide +kernel
theorem dX5_offerHeld_7 : decode cX5_offerHeld 7 = .ok (.getfield 105, 3) := by decide +kernel
theorem dX5_offerHeld_10 : decode cX5_offerHeld 10 = .ok (.if_icmp .ge 51, 3) := by decide +kernel
theorem dX5_offerHeld_13 : decode cX5_offerHeld 13 = .ok (.aload_n 0, 1) := by decide +kernel
theorem dX5_offerHeld_14 : decode cX5_offerHeld 14 = .ok (.iload_n 2, 1) := by decide +kernel
theorem dX5_offerHeld_15 : decode cX5_offerHeld 15 = .ok (.invokevirtual 110, 3) := by decide +kernel
theorem dX5_offerHeld_18 : decode cX5_offerHeld 18 = .ok (.ifCond .eq 37, 3) := by decide +kernel
theorem dX5_offerHeld_21 : decode cX5_offerHeld 21 = .ok (.aload_n 0, 1) := by decide +kernel
theorem dX5_offerHeld_22 : decode cX5_offerHeld 22 = .ok (.iload_n 2, 1) := by decide +kernel
theorem dX5_offerHeld_23 : decode cX5_offerHeld 23 = .ok (.invokevirtual 114, 3) := by decide +kernel
theorem dX5_offerHeld_26 : decode cX5_offerHeld 26 = .ok (.ifCond .ne 29, 3) := by decide +kernel
theorem dX5_offerHeld_29 : decode cX5_offerHeld 29 = .ok (.aload_n 0, 1) := by decide +kernel
theorem dX5_offerHeld_30 : decode cX5_offerHeld 30 = .ok (.aload_n 1, 1) := by decide +kernel
theorem dX5_offerHeld_31 : decode cX5_offerHeld 31 = .ok (.iload_n 2, 1) := by decide +kernel
theorem dX5_offerHeld_32 : decode cX5_offerHeld 32 = .ok (.invokevirtual 117, 3) := by decide +kernel
theorem dX5_offerHeld_35 : decode cX5_offerHeld 35 = .ok (.istore_n 3, 1) := by decide +kernel
theorem dX5_offerHeld_36 : decode cX5_offerHeld 36 = .ok (.iload_n 3, 1) := by decide +kernel
theorem dX5_offerHeld_37 : decode cX5_offerHeld 37 = .ok (.iconst (-1), 1) := by decide +kernel
theorem dX5_offerHeld_38 : decode cX5_offerHeld 38 = .ok (.if_icmp .eq 17, 3) := by decide +kernel
theorem dX5_offerHeld_41 : decode cX5_offerHeld 41 = .ok (.aload_n 0, 1) := by decide +kernel
theorem dX5_offerHeld_42 : decode cX5_offerHeld 42 = .ok (.getfield 39, 3) := by decide +kernel
theorem dX5_offerHeld_45 : decode cX5_offerHeld 45 = .ok (.iload_n 2, 1) := by decide +kernel
theorem dX5_offerHeld_46 : decode cX5_offerHeld 46 = .ok (.iload_n 3, 1) := by decide +kernel
theorem dX5_offerHeld_47 : decode cX5_offerHeld 47 = .ok (.iconst 1, 1) := by decide +kernel
theorem dX5_offerHeld_48 : decode cX5_offerHeld 48 = .ok (.iadd, 1) := by decide +kernel
theorem dX5_offerHeld_49 : decode cX5_offerHeld 49 = .ok (.iastore, 1) := by decide +kernel
theorem dX5_offerHeld_50 : decode cX5_offerHeld 50 = .ok (.aload_n 0, 1) := by decide +kernel
theorem dX5_offerHeld_51 : decode cX5_offerHeld 51 = .ok (.iload_n 3, 1) := by decide +kernel
theorem dX5_offerHeld_52 : decode cX5_offerHeld 52 = .ok (.invokevirtual 121, 3) := by decide +kernel
theorem dX5_offerHeld_55 : decode cX5_offerHeld 55 = .ok (.iinc 2 1, 3) := by decide +kernel
theorem dX5_offerHeld_58 : decode cX5_offerHeld 58 = .ok (.goto (-56), 3) := by decide +kernel
theorem dX5_offerHeld_61 : decode cX5_offerHeld 61 = .ok (.return_, 1) := by decide +kernel
theorem dX5_waits_0 : decode cX5_waits 0 = .ok (.aload_n 0, 1) := by decide +kernel
theorem dX5_waits_1 : decode cX5_waits 1 = .ok (.getfield 55, 3) := by decide +kernel
theorem dX5_waits_4 : decode cX5_waits 4 = .ok (.ifCond .eq 22, 3) := by decide +kernel
theorem dX5_waits_7 : decode cX5_waits 7 = .ok (.aload_n 0, 1) := by decide +kernel
theorem dX5_waits_8 : decode cX5_waits 8 = .ok (.getfield 42, 3) := by decide +kernel
theorem dX5_waits_11 : decode cX5_waits 11 = .ok (.getfield 125, 3) := by decide +kernel
theorem dX5_waits_14 : decode cX5_waits 14 = .ok (.iload_n 1, 1) := by decide +kernel
theorem dX5_waits_15 : decode cX5_waits 15 = .ok (.aaload, 1) := by decide +kernel
theorem dX5_waits_16 : decode cX5_waits 16 = .ok (.instanceof 129, 3) := by decide +kernel
theorem dX5_waits_19 : decode cX5_waits 19 = .ok (.ifCond .eq 7, 3) := by decide +kernel
theorem dX5_waits_22 : decode cX5_waits 22 = .ok (.iconst 1, 1) := by decide +kernel
theorem dX5_waits_23 : decode cX5_waits 23 = .ok (.goto 4, 3) := by decide +kernel
theorem dX5_waits_26 : decode cX5_waits 26 = .ok (.iconst 0, 1) := by decide +kernel
theorem dX5_waits_27 : decode cX5_waits 27 = .ok (.ireturn, 1) := by decide +kernel
theorem dX5_isHalted_0 : decode cX5_isHalted 0 = .ok (.aload_n 0, 1) := by decide +kernel
theorem dX5_isHalted_1 : decode cX5_isHalted 1 = .ok (.getfield 42, 3) := by decide +kernel
theorem dX5_isHalted_4 : decode cX5_isHalted 4 = .ok (.getfield 125, 3) := by decide +kernel
theorem dX5_isHalted_7 : decode cX5_isHalted 7 = .ok (.iload_n 1, 1) := by decide +kernel
theorem dX5_isHalted_8 : decode cX5_isHalted 8 = .ok (.aaload, 1) := by decide +kernel
theorem dX5_isHalted_9 : decode cX5_isHalted 9 = .ok (.astore_n 3, 1) := by decide +kernel
theorem dX5_isHalted_10 : decode cX5_isHalted 10 = .ok (.aload_n 3, 1) := by decide +kernel
theorem dX5_isHalted_11 : decode cX5_isHalted 11 = .ok (.instanceof 129, 3) := by decide +kernel
theorem dX5_isHalted_14 : decode cX5_isHalted 14 = .ok (.ifCond .eq 29, 3) := by decide +kernel
theorem dX5_isHalted_17 : decode cX5_isHalted 17 = .ok (.aload_n 3, 1) := by decide +kernel
theorem dX5_isHalted_18 : decode cX5_isHalted 18 = .ok (.checkcast 129, 3) := by decide +kernel
theorem dX5_isHalted_21 : decode cX5_isHalted 21 = .ok (.astore_n 2, 1) := by decide +kernel
theorem dX5_isHalted_22 : decode cX5_isHalted 22 = .ok (.aload_n 0, 1) := by decide +kernel
theorem dX5_isHalted_23 : decode cX5_isHalted 23 = .ok (.getfield 36, 3) := by decide +kernel
theorem dX5_isHalted_26 : decode cX5_isHalted 26 = .ok (.iload_n 1, 1) := by decide +kernel
theorem dX5_isHalted_27 : decode cX5_isHalted 27 = .ok (.iaload, 1) := by decide +kernel
theorem dX5_isHalted_28 : decode cX5_isHalted 28 = .ok (.aload_n 2, 1) := by decide +kernel
theorem dX5_isHalted_29 : decode cX5_isHalted 29 = .ok (.getfield 131, 3) := by decide +kernel
theorem dX5_isHalted_32 : decode cX5_isHalted 32 = .ok (.ishr, 1) := by decide +kernel
theorem dX5_isHalted_33 : decode cX5_isHalted 33 = .ok (.iconst 1, 1) := by decide +kernel
theorem dX5_isHalted_34 : decode cX5_isHalted 34 = .ok (.iand, 1) := by decide +kernel
theorem dX5_isHalted_35 : decode cX5_isHalted 35 = .ok (.iconst 1, 1) := by decide +kernel
theorem dX5_isHalted_36 : decode cX5_isHalted 36 = .ok (.if_icmp .ne 7, 3) := by decide +kernel
theorem dX5_isHalted_39 : decode cX5_isHalted 39 = .ok (.iconst 1, 1) := by decide +kernel
theorem dX5_isHalted_40 : decode cX5_isHalted 40 = .ok (.goto 4, 3) := by decide +kernel
theorem dX5_isHalted_43 : decode cX5_isHalted 43 = .ok (.iconst 0, 1) := by decide +kernel
theorem dX5_isHalted_44 : decode cX5_isHalted 44 = .ok (.ireturn, 1) := by decide +kernel
theorem dX5_nextWaiting_0 : decode cX5_nextWaiting 0 = .ok (.aload_n 0, 1) := by decide +kernel
theorem dX5_nextWaiting_1 : decode cX5_nextWaiting 1 = .ok (.getfield 39, 3) := by decide +kernel
theorem dX5_nextWaiting_4 : decode cX5_nextWaiting 4 = .ok (.iload_n 2, 1) := by decide +kernel
theorem dX5_nextWaiting_5 : decode cX5_nextWaiting 5 = .ok (.iaload, 1) := by decide +kernel
theorem dX5_nextWaiting_6 : decode cX5_nextWaiting 6 = .ok (.istore_n 3, 1) := by decide +kernel
theorem dX5_nextWaiting_7 : decode cX5_nextWaiting 7 = .ok (.iload_n 3, 1) := by decide +kernel
theorem dX5_nextWaiting_8 : decode cX5_nextWaiting 8 = .ok (.aload_n 1, 1) := by decide +kernel
theorem dX5_nextWaiting_9 : decode cX5_nextWaiting 9 = .ok (.getfield 86, 3) := by decide +kernel
end
section
theorem dX5_nextWaiting_12 : decode cX5_nextWaiting 12 = .ok (.if_icmp .ge 32, 3) := by decide +kernel
theorem dX5_nextWaiting_15 : decode cX5_nextWaiting 15 = .ok (.aload_n 1, 1) := by decide +kernel
theorem dX5_nextWaiting_16 : decode cX5_nextWaiting 16 = .ok (.getfield 134, 3) := by decide +kernel
theorem dX5_nextWaiting_19 : decode cX5_nextWaiting 19 = .ok (.iload_n 3, 1) := by decide +kernel
theorem dX5_nextWaiting_20 : decode cX5_nextWaiting 20 = .ok (.iaload, 1) := by decide +kernel
theorem dX5_nextWaiting_21 : decode cX5_nextWaiting 21 = .ok (.aload_n 0, 1) := by decide +kernel
theorem dX5_nextWaiting_22 : decode cX5_nextWaiting 22 = .ok (.getfield 65, 3) := by decide +kernel
theorem dX5_nextWaiting_25 : decode cX5_nextWaiting 25 = .ok (.if_icmp .gt 19, 3) := by decide +kernel
theorem dX5_nextWaiting_28 : decode cX5_nextWaiting 28 = .ok (.aload_n 1, 1) := by decide +kernel
theorem dX5_nextWaiting_29 : decode cX5_nextWaiting 29 = .ok (.getfield 100, 3) := by decide +kernel
theorem dX5_nextWaiting_32 : decode cX5_nextWaiting 32 = .ok (.iload_n 3, 1) := by decide +kernel
theorem dX5_nextWaiting_33 : decode cX5_nextWaiting 33 = .ok (.iaload, 1) := by decide +kernel
theorem dX5_nextWaiting_34 : decode cX5_nextWaiting 34 = .ok (.iload_n 2, 1) := by decide +kernel
theorem dX5_nextWaiting_35 : decode cX5_nextWaiting 35 = .ok (.if_icmp .eq 9, 3) := by decide +kernel
theorem dX5_nextWaiting_38 : decode cX5_nextWaiting 38 = .ok (.iinc 3 1, 3) := by decide +kernel
theorem dX5_nextWaiting_41 : decode cX5_nextWaiting 41 = .ok (.goto (-34), 3) := by decide +kernel
theorem dX5_nextWaiting_44 : decode cX5_nextWaiting 44 = .ok (.aload_n 0, 1) := by decide +kernel
theorem dX5_nextWaiting_45 : decode cX5_nextWaiting 45 = .ok (.getfield 39, 3) := by decide +kernel
theorem dX5_nextWaiting_48 : decode cX5_nextWaiting 48 = .ok (.iload_n 2, 1) := by decide +kernel
theorem dX5_nextWaiting_49 : decode cX5_nextWaiting 49 = .ok (.iload_n 3, 1) := by decide +kernel
theorem dX5_nextWaiting_50 : decode cX5_nextWaiting 50 = .ok (.iastore, 1) := by decide +kernel
theorem dX5_nextWaiting_51 : decode cX5_nextWaiting 51 = .ok (.iload_n 3, 1) := by decide +kernel
theorem dX5_nextWaiting_52 : decode cX5_nextWaiting 52 = .ok (.aload_n 1, 1) := by decide +kernel
theorem dX5_nextWaiting_53 : decode cX5_nextWaiting 53 = .ok (.getfield 86, 3) := by decide +kernel
theorem dX5_nextWaiting_56 : decode cX5_nextWaiting 56 = .ok (.if_icmp .ge 20, 3) := by decide +kernel
theorem dX5_nextWaiting_59 : decode cX5_nextWaiting 59 = .ok (.aload_n 1, 1) := by decide +kernel
theorem dX5_nextWaiting_60 : decode cX5_nextWaiting 60 = .ok (.getfield 134, 3) := by decide +kernel
theorem dX5_nextWaiting_63 : decode cX5_nextWaiting 63 = .ok (.iload_n 3, 1) := by decide +kernel
theorem dX5_nextWaiting_64 : decode cX5_nextWaiting 64 = .ok (.iaload, 1) := by decide +kernel
theorem dX5_nextWaiting_65 : decode cX5_nextWaiting 65 = .ok (.aload_n 0, 1) := by decide +kernel
theorem dX5_nextWaiting_66 : decode cX5_nextWaiting 66 = .ok (.getfield 65, 3) := by decide +kernel
theorem dX5_nextWaiting_69 : decode cX5_nextWaiting 69 = .ok (.if_icmp .gt 7, 3) := by decide +kernel
theorem dX5_nextWaiting_72 : decode cX5_nextWaiting 72 = .ok (.iload_n 3, 1) := by decide +kernel
theorem dX5_nextWaiting_73 : decode cX5_nextWaiting 73 = .ok (.goto 4, 3) := by decide +kernel
theorem dX5_nextWaiting_76 : decode cX5_nextWaiting 76 = .ok (.iconst (-1), 1) := by decide +kernel
theorem dX5_nextWaiting_77 : decode cX5_nextWaiting 77 = .ok (.ireturn, 1) := by decide +kernel
theorem dX5_offerDue_0 : decode cX5_offerDue 0 = .ok (.aload_n 0, 1) := by decide +kernel
theorem dX5_offerDue_1 : decode cX5_offerDue 1 = .ok (.getfield 94, 3) := by decide +kernel
theorem dX5_offerDue_4 : decode cX5_offerDue 4 = .ok (.aload_n 1, 1) := by decide +kernel
theorem dX5_offerDue_5 : decode cX5_offerDue 5 = .ok (.getfield 86, 3) := by decide +kernel
theorem dX5_offerDue_8 : decode cX5_offerDue 8 = .ok (.if_icmp .ge 56, 3) := by decide +kernel
theorem dX5_offerDue_11 : decode cX5_offerDue 11 = .ok (.aload_n 1, 1) := by decide +kernel
theorem dX5_offerDue_12 : decode cX5_offerDue 12 = .ok (.getfield 134, 3) := by decide +kernel
theorem dX5_offerDue_15 : decode cX5_offerDue 15 = .ok (.aload_n 0, 1) := by decide +kernel
theorem dX5_offerDue_16 : decode cX5_offerDue 16 = .ok (.getfield 94, 3) := by decide +kernel
theorem dX5_offerDue_19 : decode cX5_offerDue 19 = .ok (.iaload, 1) := by decide +kernel
theorem dX5_offerDue_20 : decode cX5_offerDue 20 = .ok (.aload_n 0, 1) := by decide +kernel
theorem dX5_offerDue_21 : decode cX5_offerDue 21 = .ok (.getfield 65, 3) := by decide +kernel
theorem dX5_offerDue_24 : decode cX5_offerDue 24 = .ok (.if_icmp .gt 40, 3) := by decide +kernel
theorem dX5_offerDue_27 : decode cX5_offerDue 27 = .ok (.aload_n 0, 1) := by decide +kernel
theorem dX5_offerDue_28 : decode cX5_offerDue 28 = .ok (.aload_n 1, 1) := by decide +kernel
theorem dX5_offerDue_29 : decode cX5_offerDue 29 = .ok (.getfield 100, 3) := by decide +kernel
theorem dX5_offerDue_32 : decode cX5_offerDue 32 = .ok (.aload_n 0, 1) := by decide +kernel
theorem dX5_offerDue_33 : decode cX5_offerDue 33 = .ok (.getfield 94, 3) := by decide +kernel
theorem dX5_offerDue_36 : decode cX5_offerDue 36 = .ok (.iaload, 1) := by decide +kernel
theorem dX5_offerDue_37 : decode cX5_offerDue 37 = .ok (.invokevirtual 110, 3) := by decide +kernel
theorem dX5_offerDue_40 : decode cX5_offerDue 40 = .ok (.ifCond .ne 11, 3) := by decide +kernel
theorem dX5_offerDue_43 : decode cX5_offerDue 43 = .ok (.aload_n 0, 1) := by decide +kernel
theorem dX5_offerDue_44 : decode cX5_offerDue 44 = .ok (.aload_n 0, 1) := by decide +kernel
theorem dX5_offerDue_45 : decode cX5_offerDue 45 = .ok (.getfield 94, 3) := by decide +kernel
theorem dX5_offerDue_48 : decode cX5_offerDue 48 = .ok (.invokevirtual 121, 3) := by decide +kernel
theorem dX5_offerDue_51 : decode cX5_offerDue 51 = .ok (.aload_n 0, 1) := by decide +kernel
theorem dX5_offerDue_52 : decode cX5_offerDue 52 = .ok (.dup, 1) := by decide +kernel
theorem dX5_offerDue_53 : decode cX5_offerDue 53 = .ok (.getfield 94, 3) := by decide +kernel
theorem dX5_offerDue_56 : decode cX5_offerDue 56 = .ok (.iconst 1, 1) := by decide +kernel
theorem dX5_offerDue_57 : decode cX5_offerDue 57 = .ok (.iadd, 1) := by decide +kernel
theorem dX5_offerDue_58 : decode cX5_offerDue 58 = .ok (.putfield 94, 3) := by decide +kernel
theorem dX5_offerDue_61 : decode cX5_offerDue 61 = .ok (.goto (-61), 3) := by decide +kernel
theorem dX5_offerDue_64 : decode cX5_offerDue 64 = .ok (.return_, 1) := by decide +kernel
theorem dX5_offer_0 : decode cX5_offer 0 = .ok (.aload_n 0, 1) := by decide +kernel
theorem dX5_offer_1 : decode cX5_offer 1 = .ok (.dup, 1) := by decide +kernel
theorem dX5_offer_2 : decode cX5_offer 2 = .ok (.getfield 59, 3) := by decide +kernel
theorem dX5_offer_5 : decode cX5_offer 5 = .ok (.iconst 1, 1) := by decide +kernel
theorem dX5_offer_6 : decode cX5_offer 6 = .ok (.isub, 1) := by decide +kernel
theorem dX5_offer_7 : decode cX5_offer 7 = .ok (.putfield 59, 3) := by decide +kernel
theorem dX5_offer_10 : decode cX5_offer 10 = .ok (.aload_n 0, 1) := by decide +kernel
theorem dX5_offer_11 : decode cX5_offer 11 = .ok (.iload_n 1, 1) := by decide +kernel
theorem dX5_offer_12 : decode cX5_offer 12 = .ok (.invokevirtual 137, 3) := by decide +kernel
theorem dX5_offer_15 : decode cX5_offer 15 = .ok (.ifCond .eq 11, 3) := by decide +kernel
theorem dX5_offer_18 : decode cX5_offer 18 = .ok (.aload_n 0, 1) := by decide +kernel
theorem dX5_offer_19 : decode cX5_offer 19 = .ok (.iload_n 1, 1) := by decide +kernel
theorem dX5_offer_20 : decode cX5_offer 20 = .ok (.invokevirtual 140, 3) := by decide +kernel
theorem dX5_offer_23 : decode cX5_offer 23 = .ok (.goto 13, 3) := by decide +kernel
theorem dX5_offer_26 : decode cX5_offer 26 = .ok (.aload_n 0, 1) := by decide +kernel
theorem dX5_offer_27 : decode cX5_offer 27 = .ok (.iload_n 1, 1) := by decide +kernel
theorem dX5_offer_28 : decode cX5_offer 28 = .ok (.iconst 1, 1) := by decide +kernel
theorem dX5_offer_29 : decode cX5_offer 29 = .ok (.aload_n 0, 1) := by decide +kernel
theorem dX5_offer_30 : decode cX5_offer 30 = .ok (.getfield 65, 3) := by decide +kernel
theorem dX5_offer_33 : decode cX5_offer 33 = .ok (.invokevirtual 101, 3) := by decide +kernel
theorem dX5_offer_36 : decode cX5_offer 36 = .ok (.return_, 1) := by decide +kernel
theorem dX5_admits_0 : decode cX5_admits 0 = .ok (.aload_n 0, 1) := by decide +kernel
theorem dX5_admits_1 : decode cX5_admits 1 = .ok (.getfield 17, 3) := by decide +kernel
theorem dX5_admits_4 : decode cX5_admits 4 = .ok (.iload_n 1, 1) := by decide +kernel
theorem dX5_admits_5 : decode cX5_admits 5 = .ok (.iaload, 1) := by decide +kernel
theorem dX5_admits_6 : decode cX5_admits 6 = .ok (.istore_n 2, 1) := by decide +kernel
theorem dX5_admits_7 : decode cX5_admits 7 = .ok (.aload_n 0, 1) := by decide +kernel
theorem dX5_admits_8 : decode cX5_admits 8 = .ok (.getfield 11, 3) := by decide +kernel
theorem dX5_admits_11 : decode cX5_admits 11 = .ok (.iload_n 2, 1) := by decide +kernel
theorem dX5_admits_12 : decode cX5_admits 12 = .ok (.aaload, 1) := by decide +kernel
theorem dX5_admits_13 : decode cX5_admits 13 = .ok (.getfield 143, 3) := by decide +kernel
theorem dX5_admits_16 : decode cX5_admits 16 = .ok (.istore_n 3, 1) := by decide +kernel
theorem dX5_admits_17 : decode cX5_admits 17 = .ok (.aload_n 0, 1) := by decide +kernel
theorem dX5_admits_18 : decode cX5_admits 18 = .ok (.getfield 42, 3) := by decide +kernel
theorem dX5_admits_21 : decode cX5_admits 21 = .ok (.getfield 144, 3) := by decide +kernel
theorem dX5_admits_24 : decode cX5_admits 24 = .ok (.aload_n 0, 1) := by decide +kernel
theorem dX5_admits_25 : decode cX5_admits 25 = .ok (.getfield 62, 3) := by decide +kernel
theorem dX5_admits_28 : decode cX5_admits 28 = .ok (.isub, 1) := by decide +kernel
theorem dX5_admits_29 : decode cX5_admits 29 = .ok (.istore 4, 2) := by decide +kernel
theorem dX5_admits_31 : decode cX5_admits 31 = .ok (.aload_n 0, 1) := by decide +kernel
theorem dX5_admits_32 : decode cX5_admits 32 = .ok (.getfield 51, 3) := by decide +kernel
theorem dX5_admits_35 : decode cX5_admits 35 = .ok (.tableswitch 100 0 2 #[25, 52, 80], 25) := by decide +kernel
theorem dX5_admits_60 : decode cX5_admits 60 = .ok (.iload_n 3, 1) := by decide +kernel
theorem dX5_admits_61 : decode cX5_admits 61 = .ok (.aload_n 0, 1) := by decide +kernel
theorem dX5_admits_62 : decode cX5_admits 62 = .ok (.getfield 42, 3) := by decide +kernel
theorem dX5_admits_65 : decode cX5_admits 65 = .ok (.getfield 125, 3) := by decide +kernel
theorem dX5_admits_68 : decode cX5_admits 68 = .ok (.iload_n 2, 1) := by decide +kernel
theorem dX5_admits_69 : decode cX5_admits 69 = .ok (.aaload, 1) := by decide +kernel
theorem dX5_admits_70 : decode cX5_admits 70 = .ok (.getfield 147, 3) := by decide +kernel
theorem dX5_admits_73 : decode cX5_admits 73 = .ok (.if_icmp .ge 12, 3) := by decide +kernel
theorem dX5_admits_76 : decode cX5_admits 76 = .ok (.iload 4, 2) := by decide +kernel
theorem dX5_admits_78 : decode cX5_admits 78 = .ok (.ifCond .le 7, 3) := by decide +kernel
theorem dX5_admits_81 : decode cX5_admits 81 = .ok (.iconst 1, 1) := by decide +kernel
theorem dX5_admits_82 : decode cX5_admits 82 = .ok (.goto 4, 3) := by decide +kernel
theorem dX5_admits_85 : decode cX5_admits 85 = .ok (.iconst 0, 1) := by decide +kernel
theorem dX5_admits_86 : decode cX5_admits 86 = .ok (.ireturn, 1) := by decide +kernel
theorem dX5_admits_87 : decode cX5_admits 87 = .ok (.bipush 16, 2) := by decide +kernel
theorem dX5_admits_89 : decode cX5_admits 89 = .ok (.iload_n 3, 1) := by decide +kernel
theorem dX5_admits_90 : decode cX5_admits 90 = .ok (.imul, 1) := by decide +kernel
theorem dX5_admits_91 : decode cX5_admits 91 = .ok (.aload_n 0, 1) := by decide +kernel
theorem dX5_admits_92 : decode cX5_admits 92 = .ok (.getfield 42, 3) := by decide +kernel
theorem dX5_admits_95 : decode cX5_admits 95 = .ok (.getfield 152, 3) := by decide +kernel
theorem dX5_admits_98 : decode cX5_admits 98 = .ok (.iload 4, 2) := by decide +kernel
theorem dX5_admits_100 : decode cX5_admits 100 = .ok (.imul, 1) := by decide +kernel
theorem dX5_admits_101 : decode cX5_admits 101 = .ok (.if_icmp .ge 12, 3) := by decide +kernel
theorem dX5_admits_104 : decode cX5_admits 104 = .ok (.iload 4, 2) := by decide +kernel
theorem dX5_admits_106 : decode cX5_admits 106 = .ok (.ifCond .le 7, 3) := by decide +kernel
theorem dX5_admits_109 : decode cX5_admits 109 = .ok (.iconst 1, 1) := by decide +kernel
theorem dX5_admits_110 : decode cX5_admits 110 = .ok (.goto 4, 3) := by decide +kernel
theorem dX5_admits_113 : decode cX5_admits 113 = .ok (.iconst 0, 1) := by decide +kernel
theorem dX5_admits_114 : decode cX5_admits 114 = .ok (.ireturn, 1) := by decide +kernel
theorem dX5_admits_115 : decode cX5_admits 115 = .ok (.iload 4, 2) := by decide +kernel
theorem dX5_admits_117 : decode cX5_admits 117 = .ok (.ifCond .gt 12, 3) := by decide +kernel
theorem dX5_admits_120 : decode cX5_admits 120 = .ok (.aload_n 0, 1) := by decide +kernel
theorem dX5_admits_121 : decode cX5_admits 121 = .ok (.iload_n 1, 1) := by decide +kernel
theorem dX5_admits_122 : decode cX5_admits 122 = .ok (.iload_n 3, 1) := by decide +kernel
theorem dX5_admits_123 : decode cX5_admits 123 = .ok (.invokevirtual 155, 3) := by decide +kernel
theorem dX5_admits_126 : decode cX5_admits 126 = .ok (.ifCond .eq 7, 3) := by decide +kernel
theorem dX5_admits_129 : decode cX5_admits 129 = .ok (.iconst 1, 1) := by decide +kernel
theorem dX5_admits_130 : decode cX5_admits 130 = .ok (.goto 4, 3) := by decide +kernel
theorem dX5_admits_133 : decode cX5_admits 133 = .ok (.iconst 0, 1) := by decide +kernel
theorem dX5_admits_134 : decode cX5_admits 134 = .ok (.ireturn, 1) := by decide +kernel
theorem dX5_admits_135 : decode cX5_admits 135 = .ok (.iload_n 3, 1) := by decide +kernel
theorem dX5_admits_136 : decode cX5_admits 136 = .ok (.aload_n 0, 1) := by decide +kernel
theorem dX5_admits_137 : decode cX5_admits 137 = .ok (.getfield 42, 3) := by decide +kernel
theorem dX5_admits_140 : decode cX5_admits 140 = .ok (.getfield 125, 3) := by decide +kernel
theorem dX5_admits_143 : decode cX5_admits 143 = .ok (.iload_n 2, 1) := by decide +kernel
theorem dX5_admits_144 : decode cX5_admits 144 = .ok (.aaload, 1) := by decide +kernel
theorem dX5_admits_145 : decode cX5_admits 145 = .ok (.invokevirtual 159, 3) := by decide +kernel
theorem dX5_admits_148 : decode cX5_admits 148 = .ok (.if_icmp .lt 10, 3) := by decide +kernel
theorem dX5_admits_151 : decode cX5_admits 151 = .ok (.aload_n 0, 1) := by decide +kernel
theorem dX5_admits_152 : decode cX5_admits 152 = .ok (.invokevirtual 163, 3) := by decide +kernel
theorem dX5_admits_155 : decode cX5_admits 155 = .ok (.ifCond .eq 7, 3) := by decide +kernel
theorem dX5_admits_158 : decode cX5_admits 158 = .ok (.iconst 1, 1) := by decide +kernel
theorem dX5_admits_159 : decode cX5_admits 159 = .ok (.goto 4, 3) := by decide +kernel
theorem dX5_admits_162 : decode cX5_admits 162 = .ok (.iconst 0, 1) := by decide +kernel
theorem dX5_admits_163 : decode cX5_admits 163 = .ok (.ireturn, 1) := by decide +kernel
theorem dX5_pushesOut_0 : decode cX5_pushesOut 0 = .ok (.iconst 0, 1) := by decide +kernel
theorem dX5_pushesOut_1 : decode cX5_pushesOut 1 = .ok (.istore_n 3, 1) := by decide +kernel
theorem dX5_pushesOut_2 : decode cX5_pushesOut 2 = .ok (.iconst 1, 1) := by decide +kernel
theorem dX5_pushesOut_3 : decode cX5_pushesOut 3 = .ok (.istore 4, 2) := by decide +kernel
theorem dX5_pushesOut_5 : decode cX5_pushesOut 5 = .ok (.iload 4, 2) := by decide +kernel
theorem dX5_pushesOut_7 : decode cX5_pushesOut 7 = .ok (.aload_n 0, 1) := by decide +kernel
theorem dX5_pushesOut_8 : decode cX5_pushesOut 8 = .ok (.getfield 42, 3) := by decide +kernel
theorem dX5_pushesOut_11 : decode cX5_pushesOut 11 = .ok (.getfield 105, 3) := by decide +kernel
theorem dX5_pushesOut_14 : decode cX5_pushesOut 14 = .ok (.if_icmp .ge 34, 3) := by decide +kernel
theorem dX5_pushesOut_17 : decode cX5_pushesOut 17 = .ok (.aload_n 0, 1) := by decide +kernel
theorem dX5_pushesOut_18 : decode cX5_pushesOut 18 = .ok (.getfield 11, 3) := by decide +kernel
theorem dX5_pushesOut_21 : decode cX5_pushesOut 21 = .ok (.iload 4, 2) := by decide +kernel
theorem dX5_pushesOut_23 : decode cX5_pushesOut 23 = .ok (.aaload, 1) := by decide +kernel
theorem dX5_pushesOut_24 : decode cX5_pushesOut 24 = .ok (.getfield 143, 3) := by decide +kernel
theorem dX5_pushesOut_27 : decode cX5_pushesOut 27 = .ok (.aload_n 0, 1) := by decide +kernel
theorem dX5_pushesOut_28 : decode cX5_pushesOut 28 = .ok (.getfield 11, 3) := by decide +kernel
theorem dX5_pushesOut_31 : decode cX5_pushesOut 31 = .ok (.iload_n 3, 1) := by decide +kernel
theorem dX5_pushesOut_32 : decode cX5_pushesOut 32 = .ok (.aaload, 1) := by decide +kernel
theorem dX5_pushesOut_33 : decode cX5_pushesOut 33 = .ok (.getfield 143, 3) := by decide +kernel
theorem dX5_pushesOut_36 : decode cX5_pushesOut 36 = .ok (.if_icmp .lt 6, 3) := by decide +kernel
theorem dX5_pushesOut_39 : decode cX5_pushesOut 39 = .ok (.iload 4, 2) := by decide +kernel
theorem dX5_pushesOut_41 : decode cX5_pushesOut 41 = .ok (.istore_n 3, 1) := by decide +kernel
theorem dX5_pushesOut_42 : decode cX5_pushesOut 42 = .ok (.iinc 4 1, 3) := by decide +kernel
theorem dX5_pushesOut_45 : decode cX5_pushesOut 45 = .ok (.goto (-40), 3) := by decide +kernel
theorem dX5_pushesOut_48 : decode cX5_pushesOut 48 = .ok (.aload_n 0, 1) := by decide +kernel
theorem dX5_pushesOut_49 : decode cX5_pushesOut 49 = .ok (.getfield 11, 3) := by decide +kernel
theorem dX5_pushesOut_52 : decode cX5_pushesOut 52 = .ok (.iload_n 3, 1) := by decide +kernel
theorem dX5_pushesOut_53 : decode cX5_pushesOut 53 = .ok (.aaload, 1) := by decide +kernel
theorem dX5_pushesOut_54 : decode cX5_pushesOut 54 = .ok (.getfield 143, 3) := by decide +kernel
theorem dX5_pushesOut_57 : decode cX5_pushesOut 57 = .ok (.iload_n 2, 1) := by decide +kernel
theorem dX5_pushesOut_58 : decode cX5_pushesOut 58 = .ok (.iconst 1, 1) := by decide +kernel
theorem dX5_pushesOut_59 : decode cX5_pushesOut 59 = .ok (.iadd, 1) := by decide +kernel
theorem dX5_pushesOut_60 : decode cX5_pushesOut 60 = .ok (.if_icmp .gt 5, 3) := by decide +kernel
theorem dX5_pushesOut_63 : decode cX5_pushesOut 63 = .ok (.iconst 0, 1) := by decide +kernel
theorem dX5_pushesOut_64 : decode cX5_pushesOut 64 = .ok (.ireturn, 1) := by decide +kernel
theorem dX5_pushesOut_65 : decode cX5_pushesOut 65 = .ok (.aload_n 0, 1) := by decide +kernel
theorem dX5_pushesOut_66 : decode cX5_pushesOut 66 = .ok (.getfield 11, 3) := by decide +kernel
theorem dX5_pushesOut_69 : decode cX5_pushesOut 69 = .ok (.iload_n 3, 1) := by decide +kernel
theorem dX5_pushesOut_70 : decode cX5_pushesOut 70 = .ok (.aaload, 1) := by decide +kernel
theorem dX5_pushesOut_71 : decode cX5_pushesOut 71 = .ok (.invokevirtual 167, 3) := by decide +kernel
theorem dX5_pushesOut_74 : decode cX5_pushesOut 74 = .ok (.istore 4, 2) := by decide +kernel
theorem dX5_pushesOut_76 : decode cX5_pushesOut 76 = .ok (.aload_n 0, 1) := by decide +kernel
theorem dX5_pushesOut_77 : decode cX5_pushesOut 77 = .ok (.dup, 1) := by decide +kernel
theorem dX5_pushesOut_78 : decode cX5_pushesOut 78 = .ok (.getfield 62, 3) := by decide +kernel
theorem dX5_pushesOut_81 : decode cX5_pushesOut 81 = .ok (.iconst 1, 1) := by decide +kernel
theorem dX5_pushesOut_82 : decode cX5_pushesOut 82 = .ok (.isub, 1) := by decide +kernel
theorem dX5_pushesOut_83 : decode cX5_pushesOut 83 = .ok (.putfield 62, 3) := by decide +kernel
theorem dX5_pushesOut_86 : decode cX5_pushesOut 86 = .ok (.aload_n 0, 1) := by decide +kernel
theorem dX5_pushesOut_87 : decode cX5_pushesOut 87 = .ok (.iload 4, 2) := by decide +kernel
theorem dX5_pushesOut_89 : decode cX5_pushesOut 89 = .ok (.iconst 2, 1) := by decide +kernel
theorem dX5_pushesOut_90 : decode cX5_pushesOut 90 = .ok (.aload_n 0, 1) := by decide +kernel
theorem dX5_pushesOut_91 : decode cX5_pushesOut 91 = .ok (.getfield 65, 3) := by decide +kernel
theorem dX5_pushesOut_94 : decode cX5_pushesOut 94 = .ok (.invokevirtual 101, 3) := by decide +kernel
theorem dX5_pushesOut_97 : decode cX5_pushesOut 97 = .ok (.aload_n 0, 1) := by decide +kernel
theorem dX5_pushesOut_98 : decode cX5_pushesOut 98 = .ok (.getfield 30, 3) := by decide +kernel
theorem dX5_pushesOut_101 : decode cX5_pushesOut 101 = .ok (.iload 4, 2) := by decide +kernel
theorem dX5_pushesOut_103 : decode cX5_pushesOut 103 = .ok (.iload_n 1, 1) := by decide +kernel
theorem dX5_pushesOut_104 : decode cX5_pushesOut 104 = .ok (.iastore, 1) := by decide +kernel
theorem dX5_pushesOut_105 : decode cX5_pushesOut 105 = .ok (.iconst 1, 1) := by decide +kernel
theorem dX5_pushesOut_106 : decode cX5_pushesOut 106 = .ok (.ireturn, 1) := by decide +kernel
theorem dX5_hasRoomBeside_0 : decode cX5_hasRoomBeside 0 = .ok (.iconst 0, 1) := by decide +kernel
theorem dX5_hasRoomBeside_1 : decode cX5_hasRoomBeside 1 = .ok (.istore_n 1, 1) := by decide +kernel
theorem dX5_hasRoomBeside_2 : decode cX5_hasRoomBeside 2 = .ok (.iconst 0, 1) := by decide +kernel
theorem dX5_hasRoomBeside_3 : decode cX5_hasRoomBeside 3 = .ok (.istore_n 2, 1) := by decide +kernel
theorem dX5_hasRoomBeside_4 : decode cX5_hasRoomBeside 4 = .ok (.iload_n 2, 1) := by decide +kernel
theorem dX5_hasRoomBeside_5 : decode cX5_hasRoomBeside 5 = .ok (.aload_n 0, 1) := by decide +kernel
theorem dX5_hasRoomBeside_6 : decode cX5_hasRoomBeside 6 = .ok (.getfield 42, 3) := by decide +kernel
theorem dX5_hasRoomBeside_9 : decode cX5_hasRoomBeside 9 = .ok (.getfield 105, 3) := by decide +kernel
theorem dX5_hasRoomBeside_12 : decode cX5_hasRoomBeside 12 = .ok (.if_icmp .ge 36, 3) := by decide +kernel
theorem dX5_hasRoomBeside_15 : decode cX5_hasRoomBeside 15 = .ok (.iload_n 1, 1) := by decide +kernel
theorem dX5_hasRoomBeside_16 : decode cX5_hasRoomBeside 16 = .ok (.aload_n 0, 1) := by decide +kernel
theorem dX5_hasRoomBeside_17 : decode cX5_hasRoomBeside 17 = .ok (.getfield 11, 3) := by decide +kernel
theorem dX5_hasRoomBeside_20 : decode cX5_hasRoomBeside 20 = .ok (.iload_n 2, 1) := by decide +kernel
theorem dX5_hasRoomBeside_21 : decode cX5_hasRoomBeside 21 = .ok (.aaload, 1) := by decide +kernel
theorem dX5_hasRoomBeside_22 : decode cX5_hasRoomBeside 22 = .ok (.getfield 143, 3) := by decide +kernel
theorem dX5_hasRoomBeside_25 : decode cX5_hasRoomBeside 25 = .ok (.aload_n 0, 1) := by decide +kernel
theorem dX5_hasRoomBeside_26 : decode cX5_hasRoomBeside 26 = .ok (.getfield 42, 3) := by decide +kernel
theorem dX5_hasRoomBeside_29 : decode cX5_hasRoomBeside 29 = .ok (.getfield 125, 3) := by decide +kernel
theorem dX5_hasRoomBeside_32 : decode cX5_hasRoomBeside 32 = .ok (.iload_n 2, 1) := by decide +kernel
theorem dX5_hasRoomBeside_33 : decode cX5_hasRoomBeside 33 = .ok (.aaload, 1) := by decide +kernel
theorem dX5_hasRoomBeside_34 : decode cX5_hasRoomBeside 34 = .ok (.invokevirtual 159, 3) := by decide +kernel
theorem dX5_hasRoomBeside_37 : decode cX5_hasRoomBeside 37 = .ok (.invokestatic 170, 3) := by decide +kernel
theorem dX5_hasRoomBeside_40 : decode cX5_hasRoomBeside 40 = .ok (.iadd, 1) := by decide +kernel
theorem dX5_hasRoomBeside_41 : decode cX5_hasRoomBeside 41 = .ok (.istore_n 1, 1) := by decide +kernel
theorem dX5_hasRoomBeside_42 : decode cX5_hasRoomBeside 42 = .ok (.iinc 2 1, 3) := by decide +kernel
theorem dX5_hasRoomBeside_45 : decode cX5_hasRoomBeside 45 = .ok (.goto (-41), 3) := by decide +kernel
theorem dX5_hasRoomBeside_48 : decode cX5_hasRoomBeside 48 = .ok (.iload_n 1, 1) := by decide +kernel
theorem dX5_hasRoomBeside_49 : decode cX5_hasRoomBeside 49 = .ok (.aload_n 0, 1) := by decide +kernel
theorem dX5_hasRoomBeside_50 : decode cX5_hasRoomBeside 50 = .ok (.getfield 42, 3) := by decide +kernel
theorem dX5_hasRoomBeside_53 : decode cX5_hasRoomBeside 53 = .ok (.getfield 144, 3) := by decide +kernel
theorem dX5_hasRoomBeside_56 : decode cX5_hasRoomBeside 56 = .ok (.if_icmp .ge 7, 3) := by decide +kernel
theorem dX5_hasRoomBeside_59 : decode cX5_hasRoomBeside 59 = .ok (.iconst 1, 1) := by decide +kernel
theorem dX5_hasRoomBeside_60 : decode cX5_hasRoomBeside 60 = .ok (.goto 4, 3) := by decide +kernel
theorem dX5_hasRoomBeside_63 : decode cX5_hasRoomBeside 63 = .ok (.iconst 0, 1) := by decide +kernel
theorem dX5_hasRoomBeside_64 : decode cX5_hasRoomBeside 64 = .ok (.ireturn, 1) := by decide +kernel
theorem dX5_take_0 : decode cX5_take 0 = .ok (.aload_n 0, 1) := by decide +kernel
theorem dX5_take_1 : decode cX5_take 1 = .ok (.getfield 17, 3) := by decide +kernel
theorem dX5_take_4 : decode cX5_take 4 = .ok (.iload_n 1, 1) := by decide +kernel
theorem dX5_take_5 : decode cX5_take 5 = .ok (.iaload, 1) := by decide +kernel
theorem dX5_take_6 : decode cX5_take 6 = .ok (.istore_n 2, 1) := by decide +kernel
theorem dX5_take_7 : decode cX5_take 7 = .ok (.aload_n 0, 1) := by decide +kernel
theorem dX5_take_8 : decode cX5_take 8 = .ok (.getfield 11, 3) := by decide +kernel
theorem dX5_take_11 : decode cX5_take 11 = .ok (.iload_n 2, 1) := by decide +kernel
theorem dX5_take_12 : decode cX5_take 12 = .ok (.aaload, 1) := by decide +kernel
theorem dX5_take_13 : decode cX5_take 13 = .ok (.iload_n 1, 1) := by decide +kernel
theorem dX5_take_14 : decode cX5_take 14 = .ok (.invokevirtual 176, 3) := by decide +kernel
theorem dX5_take_17 : decode cX5_take 17 = .ok (.aload_n 0, 1) := by decide +kernel
theorem dX5_take_18 : decode cX5_take 18 = .ok (.getfield 21, 3) := by decide +kernel
theorem dX5_take_21 : decode cX5_take 21 = .ok (.iload_n 1, 1) := by decide +kernel
theorem dX5_take_22 : decode cX5_take 22 = .ok (.aload_n 0, 1) := by decide +kernel
theorem dX5_take_23 : decode cX5_take 23 = .ok (.getfield 65, 3) := by decide +kernel
theorem dX5_take_26 : decode cX5_take 26 = .ok (.iastore, 1) := by decide +kernel
theorem dX5_take_27 : decode cX5_take 27 = .ok (.aload_n 0, 1) := by decide +kernel
theorem dX5_take_28 : decode cX5_take 28 = .ok (.dup, 1) := by decide +kernel
theorem dX5_take_29 : decode cX5_take 29 = .ok (.getfield 62, 3) := by decide +kernel
theorem dX5_take_32 : decode cX5_take 32 = .ok (.iconst 1, 1) := by decide +kernel
theorem dX5_take_33 : decode cX5_take 33 = .ok (.iadd, 1) := by decide +kernel
theorem dX5_take_34 : decode cX5_take 34 = .ok (.putfield 62, 3) := by decide +kernel
theorem dX5_take_37 : decode cX5_take 37 = .ok (.aload_n 0, 1) := by decide +kernel
theorem dX5_take_38 : decode cX5_take 38 = .ok (.getfield 33, 3) := by decide +kernel
theorem dX5_take_41 : decode cX5_take 41 = .ok (.iload_n 2, 1) := by decide +kernel
theorem dX5_take_42 : decode cX5_take 42 = .ok (.aload_n 0, 1) := by decide +kernel
theorem dX5_take_43 : decode cX5_take 43 = .ok (.getfield 33, 3) := by decide +kernel
theorem dX5_take_46 : decode cX5_take 46 = .ok (.iload_n 2, 1) := by decide +kernel
theorem dX5_take_47 : decode cX5_take 47 = .ok (.iaload, 1) := by decide +kernel
theorem dX5_take_48 : decode cX5_take 48 = .ok (.aload_n 0, 1) := by decide +kernel
theorem dX5_take_49 : decode cX5_take 49 = .ok (.getfield 11, 3) := by decide +kernel
theorem dX5_take_52 : decode cX5_take 52 = .ok (.iload_n 2, 1) := by decide +kernel
theorem dX5_take_53 : decode cX5_take 53 = .ok (.aaload, 1) := by decide +kernel
theorem dX5_take_54 : decode cX5_take 54 = .ok (.getfield 143, 3) := by decide +kernel
theorem dX5_take_57 : decode cX5_take 57 = .ok (.invokestatic 170, 3) := by decide +kernel
theorem dX5_take_60 : decode cX5_take 60 = .ok (.iastore, 1) := by decide +kernel
theorem dX5_take_61 : decode cX5_take 61 = .ok (.aload_n 0, 1) := by decide +kernel
theorem dX5_take_62 : decode cX5_take 62 = .ok (.aload_n 0, 1) := by decide +kernel
theorem dX5_take_63 : decode cX5_take 63 = .ok (.getfield 97, 3) := by decide +kernel
theorem dX5_take_66 : decode cX5_take 66 = .ok (.aload_n 0, 1) := by decide +kernel
theorem dX5_take_67 : decode cX5_take 67 = .ok (.getfield 62, 3) := by decide +kernel
theorem dX5_take_70 : decode cX5_take 70 = .ok (.invokestatic 170, 3) := by decide +kernel
theorem dX5_take_73 : decode cX5_take 73 = .ok (.putfield 97, 3) := by decide +kernel
theorem dX5_take_76 : decode cX5_take 76 = .ok (.return_, 1) := by decide +kernel
theorem dX5_sendFirsts_0 : decode cX5_sendFirsts 0 = .ok (.iconst 0, 1) := by decide +kernel
theorem dX5_sendFirsts_1 : decode cX5_sendFirsts 1 = .ok (.istore_n 1, 1) := by decide +kernel
theorem dX5_sendFirsts_2 : decode cX5_sendFirsts 2 = .ok (.iload_n 1, 1) := by decide +kernel
theorem dX5_sendFirsts_3 : decode cX5_sendFirsts 3 = .ok (.aload_n 0, 1) := by decide +kernel
theorem dX5_sendFirsts_4 : decode cX5_sendFirsts 4 = .ok (.getfield 42, 3) := by decide +kernel
theorem dX5_sendFirsts_7 : decode cX5_sendFirsts 7 = .ok (.getfield 105, 3) := by decide +kernel
theorem dX5_sendFirsts_10 : decode cX5_sendFirsts 10 = .ok (.if_icmp .ge 68, 3) := by decide +kernel
theorem dX5_sendFirsts_13 : decode cX5_sendFirsts 13 = .ok (.aload_n 0, 1) := by decide +kernel
theorem dX5_sendFirsts_14 : decode cX5_sendFirsts 14 = .ok (.getfield 11, 3) := by decide +kernel
theorem dX5_sendFirsts_17 : decode cX5_sendFirsts 17 = .ok (.iload_n 1, 1) := by decide +kernel
theorem dX5_sendFirsts_18 : decode cX5_sendFirsts 18 = .ok (.aaload, 1) := by decide +kernel
theorem dX5_sendFirsts_19 : decode cX5_sendFirsts 19 = .ok (.getfield 143, 3) := by decide +kernel
theorem dX5_sendFirsts_22 : decode cX5_sendFirsts 22 = .ok (.ifCond .le 50, 3) := by decide +kernel
theorem dX5_sendFirsts_25 : decode cX5_sendFirsts 25 = .ok (.aload_n 0, 1) := by decide +kernel
theorem dX5_sendFirsts_26 : decode cX5_sendFirsts 26 = .ok (.getfield 42, 3) := by decide +kernel
theorem dX5_sendFirsts_29 : decode cX5_sendFirsts 29 = .ok (.getfield 125, 3) := by decide +kernel
theorem dX5_sendFirsts_32 : decode cX5_sendFirsts 32 = .ok (.iload_n 1, 1) := by decide +kernel
theorem dX5_sendFirsts_33 : decode cX5_sendFirsts 33 = .ok (.aaload, 1) := by decide +kernel
theorem dX5_sendFirsts_34 : decode cX5_sendFirsts 34 = .ok (.aload_n 0, 1) := by decide +kernel
theorem dX5_sendFirsts_35 : decode cX5_sendFirsts 35 = .ok (.getfield 65, 3) := by decide +kernel
theorem dX5_sendFirsts_38 : decode cX5_sendFirsts 38 = .ok (.invokevirtual 179, 3) := by decide +kernel
theorem dX5_sendFirsts_41 : decode cX5_sendFirsts 41 = .ok (.ifCond .eq 31, 3) := by decide +kernel
theorem dX5_sendFirsts_44 : decode cX5_sendFirsts 44 = .ok (.aload_n 0, 1) := by decide +kernel
theorem dX5_sendFirsts_45 : decode cX5_sendFirsts 45 = .ok (.aload_n 0, 1) := by decide +kernel
theorem dX5_sendFirsts_46 : decode cX5_sendFirsts 46 = .ok (.getfield 11, 3) := by decide +kernel
theorem dX5_sendFirsts_49 : decode cX5_sendFirsts 49 = .ok (.iload_n 1, 1) := by decide +kernel
theorem dX5_sendFirsts_50 : decode cX5_sendFirsts 50 = .ok (.aaload, 1) := by decide +kernel
theorem dX5_sendFirsts_51 : decode cX5_sendFirsts 51 = .ok (.invokevirtual 182, 3) := by decide +kernel
theorem dX5_sendFirsts_54 : decode cX5_sendFirsts 54 = .ok (.iconst 0, 1) := by decide +kernel
theorem dX5_sendFirsts_55 : decode cX5_sendFirsts 55 = .ok (.aload_n 0, 1) := by decide +kernel
theorem dX5_sendFirsts_56 : decode cX5_sendFirsts 56 = .ok (.getfield 65, 3) := by decide +kernel
theorem dX5_sendFirsts_59 : decode cX5_sendFirsts 59 = .ok (.invokevirtual 101, 3) := by decide +kernel
theorem dX5_sendFirsts_62 : decode cX5_sendFirsts 62 = .ok (.aload_n 0, 1) := by decide +kernel
theorem dX5_sendFirsts_63 : decode cX5_sendFirsts 63 = .ok (.dup, 1) := by decide +kernel
theorem dX5_sendFirsts_64 : decode cX5_sendFirsts 64 = .ok (.getfield 62, 3) := by decide +kernel
theorem dX5_sendFirsts_67 : decode cX5_sendFirsts 67 = .ok (.iconst 1, 1) := by decide +kernel
theorem dX5_sendFirsts_68 : decode cX5_sendFirsts 68 = .ok (.isub, 1) := by decide +kernel
theorem dX5_sendFirsts_69 : decode cX5_sendFirsts 69 = .ok (.putfield 62, 3) := by decide +kernel
theorem dX5_sendFirsts_72 : decode cX5_sendFirsts 72 = .ok (.iinc 1 1, 3) := by decide +kernel
theorem dX5_sendFirsts_75 : decode cX5_sendFirsts 75 = .ok (.goto (-73), 3) := by decide +kernel
theorem dX5_sendFirsts_78 : decode cX5_sendFirsts 78 = .ok (.return_, 1) := by decide +kernel
theorem dX5_tellStates_0 : decode cX5_tellStates 0 = .ok (.iconst 0, 1) := by decide +kernel
theorem dX5_tellStates_1 : decode cX5_tellStates 1 = .ok (.istore_n 1, 1) := by decide +kernel
theorem dX5_tellStates_2 : decode cX5_tellStates 2 = .ok (.iload_n 1, 1) := by decide +kernel
theorem dX5_tellStates_3 : decode cX5_tellStates 3 = .ok (.aload_n 0, 1) := by decide +kernel
theorem dX5_tellStates_4 : decode cX5_tellStates 4 = .ok (.getfield 42, 3) := by decide +kernel
theorem dX5_tellStates_7 : decode cX5_tellStates 7 = .ok (.getfield 105, 3) := by decide +kernel
theorem dX5_tellStates_10 : decode cX5_tellStates 10 = .ok (.if_icmp .ge 86, 3) := by decide +kernel
theorem dX5_tellStates_13 : decode cX5_tellStates 13 = .ok (.aload_n 0, 1) := by decide +kernel
theorem dX5_tellStates_14 : decode cX5_tellStates 14 = .ok (.getfield 42, 3) := by decide +kernel
theorem dX5_tellStates_17 : decode cX5_tellStates 17 = .ok (.getfield 125, 3) := by decide +kernel
theorem dX5_tellStates_20 : decode cX5_tellStates 20 = .ok (.iload_n 1, 1) := by decide +kernel
theorem dX5_tellStates_21 : decode cX5_tellStates 21 = .ok (.aaload, 1) := by decide +kernel
theorem dX5_tellStates_22 : decode cX5_tellStates 22 = .ok (.astore_n 3, 1) := by decide +kernel
theorem dX5_tellStates_23 : decode cX5_tellStates 23 = .ok (.aload_n 3, 1) := by decide +kernel
theorem dX5_tellStates_24 : decode cX5_tellStates 24 = .ok (.instanceof 129, 3) := by decide +kernel
theorem dX5_tellStates_27 : decode cX5_tellStates 27 = .ok (.ifCond .eq 63, 3) := by decide +kernel
theorem dX5_tellStates_30 : decode cX5_tellStates 30 = .ok (.aload_n 3, 1) := by decide +kernel
theorem dX5_tellStates_31 : decode cX5_tellStates 31 = .ok (.checkcast 129, 3) := by decide +kernel
theorem dX5_tellStates_34 : decode cX5_tellStates 34 = .ok (.astore_n 2, 1) := by decide +kernel
theorem dX5_tellStates_35 : decode cX5_tellStates 35 = .ok (.aload_n 2, 1) := by decide +kernel
theorem dX5_tellStates_36 : decode cX5_tellStates 36 = .ok (.aload_n 0, 1) := by decide +kernel
theorem dX5_tellStates_37 : decode cX5_tellStates 37 = .ok (.getfield 11, 3) := by decide +kernel
theorem dX5_tellStates_40 : decode cX5_tellStates 40 = .ok (.iload_n 1, 1) := by decide +kernel
theorem dX5_tellStates_41 : decode cX5_tellStates 41 = .ok (.aaload, 1) := by decide +kernel
theorem dX5_tellStates_42 : decode cX5_tellStates 42 = .ok (.getfield 143, 3) := by decide +kernel
theorem dX5_tellStates_45 : decode cX5_tellStates 45 = .ok (.aload_n 0, 1) := by decide +kernel
theorem dX5_tellStates_46 : decode cX5_tellStates 46 = .ok (.getfield 36, 3) := by decide +kernel
theorem dX5_tellStates_49 : decode cX5_tellStates 49 = .ok (.iload_n 1, 1) := by decide +kernel
theorem dX5_tellStates_50 : decode cX5_tellStates 50 = .ok (.iaload, 1) := by decide +kernel
theorem dX5_tellStates_51 : decode cX5_tellStates 51 = .ok (.iconst 1, 1) := by decide +kernel
theorem dX5_tellStates_52 : decode cX5_tellStates 52 = .ok (.iand, 1) := by decide +kernel
theorem dX5_tellStates_53 : decode cX5_tellStates 53 = .ok (.iconst 1, 1) := by decide +kernel
theorem dX5_tellStates_54 : decode cX5_tellStates 54 = .ok (.if_icmp .ne 7, 3) := by decide +kernel
theorem dX5_tellStates_57 : decode cX5_tellStates 57 = .ok (.iconst 1, 1) := by decide +kernel
theorem dX5_tellStates_58 : decode cX5_tellStates 58 = .ok (.goto 4, 3) := by decide +kernel
theorem dX5_tellStates_61 : decode cX5_tellStates 61 = .ok (.iconst 0, 1) := by decide +kernel
theorem dX5_tellStates_62 : decode cX5_tellStates 62 = .ok (.invokevirtual 185, 3) := by decide +kernel
theorem dX5_tellStates_65 : decode cX5_tellStates 65 = .ok (.istore_n 3, 1) := by decide +kernel
theorem dX5_tellStates_66 : decode cX5_tellStates 66 = .ok (.aload_n 0, 1) := by decide +kernel
theorem dX5_tellStates_67 : decode cX5_tellStates 67 = .ok (.getfield 36, 3) := by decide +kernel
theorem dX5_tellStates_70 : decode cX5_tellStates 70 = .ok (.iload_n 1, 1) := by decide +kernel
theorem dX5_tellStates_71 : decode cX5_tellStates 71 = .ok (.aload_n 0, 1) := by decide +kernel
theorem dX5_tellStates_72 : decode cX5_tellStates 72 = .ok (.getfield 36, 3) := by decide +kernel
theorem dX5_tellStates_75 : decode cX5_tellStates 75 = .ok (.iload_n 1, 1) := by decide +kernel
theorem dX5_tellStates_76 : decode cX5_tellStates 76 = .ok (.iaload, 1) := by decide +kernel
theorem dX5_tellStates_77 : decode cX5_tellStates 77 = .ok (.iconst 1, 1) := by decide +kernel
theorem dX5_tellStates_78 : decode cX5_tellStates 78 = .ok (.ishl, 1) := by decide +kernel
theorem dX5_tellStates_79 : decode cX5_tellStates 79 = .ok (.iload_n 3, 1) := by decide +kernel
theorem dX5_tellStates_80 : decode cX5_tellStates 80 = .ok (.ifCond .eq 7, 3) := by decide +kernel
theorem dX5_tellStates_83 : decode cX5_tellStates 83 = .ok (.iconst 1, 1) := by decide +kernel
theorem dX5_tellStates_84 : decode cX5_tellStates 84 = .ok (.goto 4, 3) := by decide +kernel
theorem dX5_tellStates_87 : decode cX5_tellStates 87 = .ok (.iconst 0, 1) := by decide +kernel
theorem dX5_tellStates_88 : decode cX5_tellStates 88 = .ok (.ior, 1) := by decide +kernel
theorem dX5_tellStates_89 : decode cX5_tellStates 89 = .ok (.iastore, 1) := by decide +kernel
theorem dX5_tellStates_90 : decode cX5_tellStates 90 = .ok (.iinc 1 1, 3) := by decide +kernel
theorem dX5_tellStates_93 : decode cX5_tellStates 93 = .ok (.goto (-91), 3) := by decide +kernel
theorem dX5_tellStates_96 : decode cX5_tellStates 96 = .ok (.return_, 1) := by decide +kernel
theorem dX5_sendRest_0 : decode cX5_sendRest 0 = .ok (.iconst 0, 1) := by decide +kernel
theorem dX5_sendRest_1 : decode cX5_sendRest 1 = .ok (.istore_n 1, 1) := by decide +kernel
theorem dX5_sendRest_2 : decode cX5_sendRest 2 = .ok (.iload_n 1, 1) := by decide +kernel
theorem dX5_sendRest_3 : decode cX5_sendRest 3 = .ok (.iconst 4, 1) := by decide +kernel
theorem dX5_sendRest_4 : decode cX5_sendRest 4 = .ok (.if_icmp .ge 46, 3) := by decide +kernel
theorem dX5_sendRest_7 : decode cX5_sendRest 7 = .ok (.aload_n 0, 1) := by decide +kernel
theorem dX5_sendRest_8 : decode cX5_sendRest 8 = .ok (.getfield 11, 3) := by decide +kernel
theorem dX5_sendRest_11 : decode cX5_sendRest 11 = .ok (.iload_n 1, 1) := by decide +kernel
theorem dX5_sendRest_12 : decode cX5_sendRest 12 = .ok (.aaload, 1) := by decide +kernel
theorem dX5_sendRest_13 : decode cX5_sendRest 13 = .ok (.getfield 143, 3) := by decide +kernel
theorem dX5_sendRest_16 : decode cX5_sendRest 16 = .ok (.istore_n 2, 1) := by decide +kernel
theorem dX5_sendRest_17 : decode cX5_sendRest 17 = .ok (.iload_n 2, 1) := by decide +kernel
theorem dX5_sendRest_18 : decode cX5_sendRest 18 = .ok (.ifCond .le 26, 3) := by decide +kernel
theorem dX5_sendRest_21 : decode cX5_sendRest 21 = .ok (.aload_n 0, 1) := by decide +kernel
theorem dX5_sendRest_22 : decode cX5_sendRest 22 = .ok (.aload_n 0, 1) := by decide +kernel
theorem dX5_sendRest_23 : decode cX5_sendRest 23 = .ok (.getfield 11, 3) := by decide +kernel
theorem dX5_sendRest_26 : decode cX5_sendRest 26 = .ok (.iload_n 1, 1) := by decide +kernel
theorem dX5_sendRest_27 : decode cX5_sendRest 27 = .ok (.aaload, 1) := by decide +kernel
theorem dX5_sendRest_28 : decode cX5_sendRest 28 = .ok (.invokevirtual 182, 3) := by decide +kernel
theorem dX5_sendRest_31 : decode cX5_sendRest 31 = .ok (.iconst 0, 1) := by decide +kernel
theorem dX5_sendRest_32 : decode cX5_sendRest 32 = .ok (.sipush 400, 3) := by decide +kernel
theorem dX5_sendRest_35 : decode cX5_sendRest 35 = .ok (.invokevirtual 101, 3) := by decide +kernel
theorem dX5_sendRest_38 : decode cX5_sendRest 38 = .ok (.iinc 2 (-1), 3) := by decide +kernel
theorem dX5_sendRest_41 : decode cX5_sendRest 41 = .ok (.goto (-24), 3) := by decide +kernel
theorem dX5_sendRest_44 : decode cX5_sendRest 44 = .ok (.iinc 1 1, 3) := by decide +kernel
theorem dX5_sendRest_47 : decode cX5_sendRest 47 = .ok (.goto (-45), 3) := by decide +kernel
theorem dX5_sendRest_50 : decode cX5_sendRest 50 = .ok (.return_, 1) := by decide +kernel
theorem dX5_countOf_0 : decode cX5_countOf 0 = .ok (.iconst 0, 1) := by decide +kernel
theorem dX5_countOf_1 : decode cX5_countOf 1 = .ok (.istore_n 3, 1) := by decide +kernel
theorem dX5_countOf_2 : decode cX5_countOf 2 = .ok (.iconst 0, 1) := by decide +kernel
theorem dX5_countOf_3 : decode cX5_countOf 3 = .ok (.istore 4, 2) := by decide +kernel
theorem dX5_countOf_5 : decode cX5_countOf 5 = .ok (.iload 4, 2) := by decide +kernel
theorem dX5_countOf_7 : decode cX5_countOf 7 = .ok (.aload_n 0, 1) := by decide +kernel
theorem dX5_countOf_8 : decode cX5_countOf 8 = .ok (.getfield 91, 3) := by decide +kernel
theorem dX5_countOf_11 : decode cX5_countOf 11 = .ok (.if_icmp .ge 39, 3) := by decide +kernel
theorem dX5_countOf_14 : decode cX5_countOf 14 = .ok (.aload_n 0, 1) := by decide +kernel
theorem dX5_countOf_15 : decode cX5_countOf 15 = .ok (.getfield 24, 3) := by decide +kernel
theorem dX5_countOf_18 : decode cX5_countOf 18 = .ok (.iload 4, 2) := by decide +kernel
theorem dX5_countOf_20 : decode cX5_countOf 20 = .ok (.iaload, 1) := by decide +kernel
theorem dX5_countOf_21 : decode cX5_countOf 21 = .ok (.iload_n 2, 1) := by decide +kernel
theorem dX5_countOf_22 : decode cX5_countOf 22 = .ok (.if_icmp .ne 22, 3) := by decide +kernel
theorem dX5_countOf_25 : decode cX5_countOf 25 = .ok (.iload_n 1, 1) := by decide +kernel
theorem dX5_countOf_26 : decode cX5_countOf 26 = .ok (.iconst (-1), 1) := by decide +kernel
theorem dX5_countOf_27 : decode cX5_countOf 27 = .ok (.if_icmp .eq 14, 3) := by decide +kernel
theorem dX5_countOf_30 : decode cX5_countOf 30 = .ok (.aload_n 0, 1) := by decide +kernel
theorem dX5_countOf_31 : decode cX5_countOf 31 = .ok (.getfield 17, 3) := by decide +kernel
theorem dX5_countOf_34 : decode cX5_countOf 34 = .ok (.iload 4, 2) := by decide +kernel
theorem dX5_countOf_36 : decode cX5_countOf 36 = .ok (.iaload, 1) := by decide +kernel
theorem dX5_countOf_37 : decode cX5_countOf 37 = .ok (.iload_n 1, 1) := by decide +kernel
theorem dX5_countOf_38 : decode cX5_countOf 38 = .ok (.if_icmp .ne 6, 3) := by decide +kernel
theorem dX5_countOf_41 : decode cX5_countOf 41 = .ok (.iinc 3 1, 3) := by decide +kernel
theorem dX5_countOf_44 : decode cX5_countOf 44 = .ok (.iinc 4 1, 3) := by decide +kernel
theorem dX5_countOf_47 : decode cX5_countOf 47 = .ok (.goto (-42), 3) := by decide +kernel
theorem dX5_countOf_50 : decode cX5_countOf 50 = .ok (.iload_n 3, 1) := by decide +kernel
theorem dX5_countOf_51 : decode cX5_countOf 51 = .ok (.ireturn, 1) := by decide +kernel
theorem dX5_lengthAt_0 : decode cX5_lengthAt 0 = .ok (.iconst 0, 1) := by decide +kernel
theorem dX5_lengthAt_1 : decode cX5_lengthAt 1 = .ok (.istore_n 3, 1) := by decide +kernel
theorem dX5_lengthAt_2 : decode cX5_lengthAt 2 = .ok (.iconst 0, 1) := by decide +kernel
theorem dX5_lengthAt_3 : decode cX5_lengthAt 3 = .ok (.istore 4, 2) := by decide +kernel
theorem dX5_lengthAt_5 : decode cX5_lengthAt 5 = .ok (.iload 4, 2) := by decide +kernel
theorem dX5_lengthAt_7 : decode cX5_lengthAt 7 = .ok (.aload_n 0, 1) := by decide +kernel
theorem dX5_lengthAt_8 : decode cX5_lengthAt 8 = .ok (.getfield 91, 3) := by decide +kernel
theorem dX5_lengthAt_11 : decode cX5_lengthAt 11 = .ok (.if_icmp .ge 45, 3) := by decide +kernel
theorem dX5_lengthAt_14 : decode cX5_lengthAt 14 = .ok (.aload_n 0, 1) := by decide +kernel
theorem dX5_lengthAt_15 : decode cX5_lengthAt 15 = .ok (.getfield 17, 3) := by decide +kernel
theorem dX5_lengthAt_18 : decode cX5_lengthAt 18 = .ok (.iload 4, 2) := by decide +kernel
theorem dX5_lengthAt_20 : decode cX5_lengthAt 20 = .ok (.iaload, 1) := by decide +kernel
theorem dX5_lengthAt_21 : decode cX5_lengthAt 21 = .ok (.iload_n 1, 1) := by decide +kernel
theorem dX5_lengthAt_22 : decode cX5_lengthAt 22 = .ok (.if_icmp .ne 28, 3) := by decide +kernel
theorem dX5_lengthAt_25 : decode cX5_lengthAt 25 = .ok (.aload_n 0, 1) := by decide +kernel
theorem dX5_lengthAt_26 : decode cX5_lengthAt 26 = .ok (.getfield 21, 3) := by decide +kernel
theorem dX5_lengthAt_29 : decode cX5_lengthAt 29 = .ok (.iload 4, 2) := by decide +kernel
theorem dX5_lengthAt_31 : decode cX5_lengthAt 31 = .ok (.iaload, 1) := by decide +kernel
theorem dX5_lengthAt_32 : decode cX5_lengthAt 32 = .ok (.iload_n 2, 1) := by decide +kernel
theorem dX5_lengthAt_33 : decode cX5_lengthAt 33 = .ok (.if_icmp .gt 17, 3) := by decide +kernel
theorem dX5_lengthAt_36 : decode cX5_lengthAt 36 = .ok (.iload_n 2, 1) := by decide +kernel
theorem dX5_lengthAt_37 : decode cX5_lengthAt 37 = .ok (.aload_n 0, 1) := by decide +kernel
theorem dX5_lengthAt_38 : decode cX5_lengthAt 38 = .ok (.getfield 27, 3) := by decide +kernel
theorem dX5_lengthAt_41 : decode cX5_lengthAt 41 = .ok (.iload 4, 2) := by decide +kernel
theorem dX5_lengthAt_43 : decode cX5_lengthAt 43 = .ok (.iaload, 1) := by decide +kernel
theorem dX5_lengthAt_44 : decode cX5_lengthAt 44 = .ok (.if_icmp .ge 6, 3) := by decide +kernel
theorem dX5_lengthAt_47 : decode cX5_lengthAt 47 = .ok (.iinc 3 1, 3) := by decide +kernel
theorem dX5_lengthAt_50 : decode cX5_lengthAt 50 = .ok (.iinc 4 1, 3) := by decide +kernel
theorem dX5_lengthAt_53 : decode cX5_lengthAt 53 = .ok (.goto (-48), 3) := by decide +kernel
theorem dX5_lengthAt_56 : decode cX5_lengthAt 56 = .ok (.iload_n 3, 1) := by decide +kernel
theorem dX5_lengthAt_57 : decode cX5_lengthAt 57 = .ok (.ireturn, 1) := by decide +kernel
theorem dX6_init_0 : decode cX6_init 0 = .ok (.aload_n 0, 1) := by decide +kernel
theorem dX6_init_1 : decode cX6_init 1 = .ok (.invokespecial 3, 3) := by decide +kernel
theorem dX6_init_4 : decode cX6_init 4 = .ok (.aload_n 0, 1) := by decide +kernel
theorem dX6_init_5 : decode cX6_init 5 = .ok (.iconst 4, 1) := by decide +kernel
theorem dX6_init_6 : decode cX6_init 6 = .ok (.anewarray 9, 3) := by decide +kernel
theorem dX6_init_9 : decode cX6_init 9 = .ok (.putfield 11, 3) := by decide +kernel
theorem dX6_init_12 : decode cX6_init 12 = .ok (.aload_n 0, 1) := by decide +kernel
theorem dX6_init_13 : decode cX6_init 13 = .ok (.iconst 1, 1) := by decide +kernel
theorem dX6_init_14 : decode cX6_init 14 = .ok (.putfield 17, 3) := by decide +kernel
theorem dX6_init_17 : decode cX6_init 17 = .ok (.aload_n 0, 1) := by decide +kernel
theorem dX6_init_18 : decode cX6_init 18 = .ok (.bipush 8, 2) := by decide +kernel
theorem dX6_init_20 : decode cX6_init 20 = .ok (.putfield 21, 3) := by decide +kernel
theorem dX6_init_23 : decode cX6_init 23 = .ok (.aload_n 0, 1) := by decide +kernel
theorem dX6_init_24 : decode cX6_init 24 = .ok (.bipush 16, 2) := by decide +kernel
theorem dX6_init_26 : decode cX6_init 26 = .ok (.putfield 24, 3) := by decide +kernel
theorem dX6_init_29 : decode cX6_init 29 = .ok (.aload_n 0, 1) := by decide +kernel
theorem dX6_init_30 : decode cX6_init 30 = .ok (.getfield 11, 3) := by decide +kernel
theorem dX6_init_33 : decode cX6_init 33 = .ok (.iconst 0, 1) := by decide +kernel
theorem dX6_init_34 : decode cX6_init 34 = .ok (.new 9, 3) := by decide +kernel
theorem dX6_init_37 : decode cX6_init 37 = .ok (.dup, 1) := by decide +kernel
theorem dX6_init_38 : decode cX6_init 38 = .ok (.iconst 4, 1) := by decide +kernel
theorem dX6_init_39 : decode cX6_init 39 = .ok (.invokespecial 27, 3) := by decide +kernel
theorem dX6_init_42 : decode cX6_init 42 = .ok (.aastore, 1) := by decide +kernel
theorem dX6_init_43 : decode cX6_init 43 = .ok (.return_, 1) := by decide +kernel
theorem dX6_lineAt_0 : decode cX6_lineAt 0 = .ok (.iload_n 1, 1) := by decide +kernel
theorem dX6_lineAt_1 : decode cX6_lineAt 1 = .ok (.iconst 0, 1) := by decide +kernel
theorem dX6_lineAt_2 : decode cX6_lineAt 2 = .ok (.aload_n 0, 1) := by decide +kernel
theorem dX6_lineAt_3 : decode cX6_lineAt 3 = .ok (.getfield 17, 3) := by decide +kernel
theorem dX6_lineAt_6 : decode cX6_lineAt 6 = .ok (.iconst 1, 1) := by decide +kernel
theorem dX6_lineAt_7 : decode cX6_lineAt 7 = .ok (.isub, 1) := by decide +kernel
theorem dX6_lineAt_8 : decode cX6_lineAt 8 = .ok (.invokestatic 30, 3) := by decide +kernel
theorem dX6_lineAt_11 : decode cX6_lineAt 11 = .ok (.ifCond .eq 12, 3) := by decide +kernel
theorem dX6_lineAt_14 : decode cX6_lineAt 14 = .ok (.aload_n 0, 1) := by decide +kernel
theorem dX6_lineAt_15 : decode cX6_lineAt 15 = .ok (.getfield 11, 3) := by decide +kernel
theorem dX6_lineAt_18 : decode cX6_lineAt 18 = .ok (.iload_n 1, 1) := by decide +kernel
theorem dX6_lineAt_19 : decode cX6_lineAt 19 = .ok (.aaload, 1) := by decide +kernel
theorem dX6_lineAt_20 : decode cX6_lineAt 20 = .ok (.goto 4, 3) := by decide +kernel
theorem dX6_lineAt_23 : decode cX6_lineAt 23 = .ok (.aconst_null, 1) := by decide +kernel
theorem dX6_lineAt_24 : decode cX6_lineAt 24 = .ok (.areturn, 1) := by decide +kernel
theorem dX6_addLine_0 : decode cX6_addLine 0 = .ok (.aload_n 0, 1) := by decide +kernel
theorem dX6_addLine_1 : decode cX6_addLine 1 = .ok (.getfield 17, 3) := by decide +kernel
theorem dX6_addLine_4 : decode cX6_addLine 4 = .ok (.istore_n 2, 1) := by decide +kernel
theorem dX6_addLine_5 : decode cX6_addLine 5 = .ok (.aload_n 0, 1) := by decide +kernel
theorem dX6_addLine_6 : decode cX6_addLine 6 = .ok (.getfield 11, 3) := by decide +kernel
theorem dX6_addLine_9 : decode cX6_addLine 9 = .ok (.iload_n 2, 1) := by decide +kernel
theorem dX6_addLine_10 : decode cX6_addLine 10 = .ok (.aload_n 1, 1) := by decide +kernel
theorem dX6_addLine_11 : decode cX6_addLine 11 = .ok (.aastore, 1) := by decide +kernel
theorem dX6_addLine_12 : decode cX6_addLine 12 = .ok (.aload_n 0, 1) := by decide +kernel
theorem dX6_addLine_13 : decode cX6_addLine 13 = .ok (.dup, 1) := by decide +kernel
theorem dX6_addLine_14 : decode cX6_addLine 14 = .ok (.getfield 17, 3) := by decide +kernel
theorem dX6_addLine_17 : decode cX6_addLine 17 = .ok (.iconst 1, 1) := by decide +kernel
theorem dX6_addLine_18 : decode cX6_addLine 18 = .ok (.iadd, 1) := by decide +kernel
theorem dX6_addLine_19 : decode cX6_addLine 19 = .ok (.putfield 17, 3) := by decide +kernel
theorem dX6_addLine_22 : decode cX6_addLine 22 = .ok (.iload_n 2, 1) := by decide +kernel
theorem dX6_addLine_23 : decode cX6_addLine 23 = .ok (.ireturn, 1) := by decide +kernel
theorem dX6_partsTogether_0 : decode cX6_partsTogether 0 = .ok (.iconst 0, 1) := by decide +kernel
theorem dX6_partsTogether_1 : decode cX6_partsTogether 1 = .ok (.istore_n 1, 1) := by decide +kernel
theorem dX6_partsTogether_2 : decode cX6_partsTogether 2 = .ok (.iconst 0, 1) := by decide +kernel
theorem dX6_partsTogether_3 : decode cX6_partsTogether 3 = .ok (.istore_n 2, 1) := by decide +kernel
theorem dX6_partsTogether_4 : decode cX6_partsTogether 4 = .ok (.iload_n 2, 1) := by decide +kernel
theorem dX6_partsTogether_5 : decode cX6_partsTogether 5 = .ok (.aload_n 0, 1) := by decide +kernel
theorem dX6_partsTogether_6 : decode cX6_partsTogether 6 = .ok (.getfield 17, 3) := by decide +kernel
theorem dX6_partsTogether_9 : decode cX6_partsTogether 9 = .ok (.if_icmp .ge 21, 3) := by decide +kernel
theorem dX6_partsTogether_12 : decode cX6_partsTogether 12 = .ok (.iload_n 1, 1) := by decide +kernel
theorem dX6_partsTogether_13 : decode cX6_partsTogether 13 = .ok (.aload_n 0, 1) := by decide +kernel
theorem dX6_partsTogether_14 : decode cX6_partsTogether 14 = .ok (.getfield 11, 3) := by decide +kernel
theorem dX6_partsTogether_17 : decode cX6_partsTogether 17 = .ok (.iload_n 2, 1) := by decide +kernel
theorem dX6_partsTogether_18 : decode cX6_partsTogether 18 = .ok (.aaload, 1) := by decide +kernel
theorem dX6_partsTogether_19 : decode cX6_partsTogether 19 = .ok (.invokevirtual 34, 3) := by decide +kernel
theorem dX6_partsTogether_22 : decode cX6_partsTogether 22 = .ok (.iadd, 1) := by decide +kernel
theorem dX6_partsTogether_23 : decode cX6_partsTogether 23 = .ok (.istore_n 1, 1) := by decide +kernel
theorem dX6_partsTogether_24 : decode cX6_partsTogether 24 = .ok (.iinc 2 1, 3) := by decide +kernel
theorem dX6_partsTogether_27 : decode cX6_partsTogether 27 = .ok (.goto (-23), 3) := by decide +kernel
theorem dX6_partsTogether_30 : decode cX6_partsTogether 30 = .ok (.iload_n 1, 1) := by decide +kernel
theorem dX6_partsTogether_31 : decode cX6_partsTogether 31 = .ok (.ireturn, 1) := by decide +kernel
theorem dX7_init_0 : decode cX7_init 0 = .ok (.aload_n 0, 1) := by decide +kernel
theorem dX7_init_1 : decode cX7_init 1 = .ok (.invokespecial 3, 3) := by decide +kernel
theorem dX7_init_4 : decode cX7_init 4 = .ok (.aload_n 0, 1) := by decide +kernel
theorem dX7_init_5 : decode cX7_init 5 = .ok (.iload_n 1, 1) := by decide +kernel
theorem dX7_init_6 : decode cX7_init 6 = .ok (.putfield 9, 3) := by decide +kernel
theorem dX7_init_9 : decode cX7_init 9 = .ok (.aload_n 0, 1) := by decide +kernel
theorem dX7_init_10 : decode cX7_init 10 = .ok (.iload_n 2, 1) := by decide +kernel
theorem dX7_init_11 : decode cX7_init 11 = .ok (.newarray .int, 2) := by decide +kernel
theorem dX7_init_13 : decode cX7_init 13 = .ok (.putfield 15, 3) := by decide +kernel
theorem dX7_init_16 : decode cX7_init 16 = .ok (.return_, 1) := by decide +kernel
theorem dX7_hasItems_0 : decode cX7_hasItems 0 = .ok (.iload_n 1, 1) := by decide +kernel
theorem dX7_hasItems_1 : decode cX7_hasItems 1 = .ok (.ifCond .lt 22, 3) := by decide +kernel
theorem dX7_hasItems_4 : decode cX7_hasItems 4 = .ok (.iload_n 2, 1) := by decide +kernel
theorem dX7_hasItems_5 : decode cX7_hasItems 5 = .ok (.ifCond .lt 18, 3) := by decide +kernel
theorem dX7_hasItems_8 : decode cX7_hasItems 8 = .ok (.iload_n 1, 1) := by decide +kernel
theorem dX7_hasItems_9 : decode cX7_hasItems 9 = .ok (.aload_n 0, 1) := by decide +kernel
theorem dX7_hasItems_10 : decode cX7_hasItems 10 = .ok (.getfield 15, 3) := by decide +kernel
theorem dX7_hasItems_13 : decode cX7_hasItems 13 = .ok (.arraylength, 1) := by decide +kernel
theorem dX7_hasItems_14 : decode cX7_hasItems 14 = .ok (.iload_n 2, 1) := by decide +kernel
theorem dX7_hasItems_15 : decode cX7_hasItems 15 = .ok (.isub, 1) := by decide +kernel
theorem dX7_hasItems_16 : decode cX7_hasItems 16 = .ok (.if_icmp .gt 7, 3) := by decide +kernel
theorem dX7_hasItems_19 : decode cX7_hasItems 19 = .ok (.iconst 1, 1) := by decide +kernel
theorem dX7_hasItems_20 : decode cX7_hasItems 20 = .ok (.goto 4, 3) := by decide +kernel
theorem dX7_hasItems_23 : decode cX7_hasItems 23 = .ok (.iconst 0, 1) := by decide +kernel
theorem dX7_hasItems_24 : decode cX7_hasItems 24 = .ok (.ireturn, 1) := by decide +kernel
theorem dX7_put_0 : decode cX7_put 0 = .ok (.aload_n 0, 1) := by decide +kernel
theorem dX7_put_1 : decode cX7_put 1 = .ok (.getfield 9, 3) := by decide +kernel
theorem dX7_put_4 : decode cX7_put 4 = .ok (.ifCond .ne 14, 3) := by decide +kernel
theorem dX7_put_7 : decode cX7_put 7 = .ok (.aload_n 0, 1) := by decide +kernel
theorem dX7_put_8 : decode cX7_put 8 = .ok (.getfield 15, 3) := by decide +kernel
theorem dX7_put_11 : decode cX7_put 11 = .ok (.iload_n 1, 1) := by decide +kernel
theorem dX7_put_12 : decode cX7_put 12 = .ok (.iload_n 2, 1) := by decide +kernel
theorem dX7_put_13 : decode cX7_put 13 = .ok (.i2b, 1) := by decide +kernel
theorem dX7_put_14 : decode cX7_put 14 = .ok (.iastore, 1) := by decide +kernel
theorem dX7_put_15 : decode cX7_put 15 = .ok (.goto 29, 3) := by decide +kernel
theorem dX7_put_18 : decode cX7_put 18 = .ok (.aload_n 0, 1) := by decide +kernel
theorem dX7_put_19 : decode cX7_put 19 = .ok (.getfield 9, 3) := by decide +kernel
theorem dX7_put_22 : decode cX7_put 22 = .ok (.iconst 1, 1) := by decide +kernel
theorem dX7_put_23 : decode cX7_put 23 = .ok (.if_icmp .ne 14, 3) := by decide +kernel
theorem dX7_put_26 : decode cX7_put 26 = .ok (.aload_n 0, 1) := by decide +kernel
theorem dX7_put_27 : decode cX7_put 27 = .ok (.getfield 15, 3) := by decide +kernel
theorem dX7_put_30 : decode cX7_put 30 = .ok (.iload_n 1, 1) := by decide +kernel
theorem dX7_put_31 : decode cX7_put 31 = .ok (.iload_n 2, 1) := by decide +kernel
theorem dX7_put_32 : decode cX7_put 32 = .ok (.i2s, 1) := by decide +kernel
theorem dX7_put_33 : decode cX7_put 33 = .ok (.iastore, 1) := by decide +kernel
theorem dX7_put_34 : decode cX7_put 34 = .ok (.goto 10, 3) := by decide +kernel
theorem dX7_put_37 : decode cX7_put 37 = .ok (.aload_n 0, 1) := by decide +kernel
theorem dX7_put_38 : decode cX7_put 38 = .ok (.getfield 15, 3) := by decide +kernel
theorem dX7_put_41 : decode cX7_put 41 = .ok (.iload_n 1, 1) := by decide +kernel
theorem dX7_put_42 : decode cX7_put 42 = .ok (.iload_n 2, 1) := by decide +kernel
theorem dX7_put_43 : decode cX7_put 43 = .ok (.iastore, 1) := by decide +kernel
theorem dX7_put_44 : decode cX7_put 44 = .ok (.return_, 1) := by decide +kernel
theorem dX8_init_0 : decode cX8_init 0 = .ok (.aload_n 0, 1) := by decide +kernel
theorem dX8_init_1 : decode cX8_init 1 = .ok (.iload_n 1, 1) := by decide +kernel
theorem dX8_init_2 : decode cX8_init 2 = .ok (.invokespecial 3, 3) := by decide +kernel
theorem dX8_init_5 : decode cX8_init 5 = .ok (.aload_n 0, 1) := by decide +kernel
theorem dX8_init_6 : decode cX8_init 6 = .ok (.iconst 1, 1) := by decide +kernel
theorem dX8_init_7 : decode cX8_init 7 = .ok (.putfield 11, 3) := by decide +kernel
theorem dX8_init_10 : decode cX8_init 10 = .ok (.return_, 1) := by decide +kernel
theorem dX8_kindNumber_0 : decode cX8_kindNumber 0 = .ok (.iconst 1, 1) := by decide +kernel
theorem dX8_kindNumber_1 : decode cX8_kindNumber 1 = .ok (.ireturn, 1) := by decide +kernel
theorem dX8_keptPart_0 : decode cX8_keptPart 0 = .ok (.aload_n 0, 1) := by decide +kernel
theorem dX8_keptPart_1 : decode cX8_keptPart 1 = .ok (.getfield 11, 3) := by decide +kernel
theorem dX8_keptPart_4 : decode cX8_keptPart 4 = .ok (.ireturn, 1) := by decide +kernel
theorem dX9_init_0 : decode cX9_init 0 = .ok (.aload_n 0, 1) := by decide +kernel
theorem dX9_init_1 : decode cX9_init 1 = .ok (.invokespecial 1, 3) := by decide +kernel
theorem dX9_init_4 : decode cX9_init 4 = .ok (.aload_n 0, 1) := by decide +kernel
theorem dX9_init_5 : decode cX9_init 5 = .ok (.new 7, 3) := by decide +kernel
theorem dX9_init_8 : decode cX9_init 8 = .ok (.dup, 1) := by decide +kernel
theorem dX9_init_9 : decode cX9_init 9 = .ok (.invokespecial 9, 3) := by decide +kernel
theorem dX9_init_12 : decode cX9_init 12 = .ok (.putfield 10, 3) := by decide +kernel
theorem dX9_init_15 : decode cX9_init 15 = .ok (.aload_n 0, 1) := by decide +kernel
theorem dX9_init_16 : decode cX9_init 16 = .ok (.iconst 4, 1) := by decide +kernel
theorem dX9_init_17 : decode cX9_init 17 = .ok (.anewarray 16, 3) := by decide +kernel
theorem dX9_init_20 : decode cX9_init 20 = .ok (.putfield 18, 3) := by decide +kernel
theorem dX9_init_23 : decode cX9_init 23 = .ok (.aload_n 0, 1) := by decide +kernel
theorem dX9_init_24 : decode cX9_init 24 = .ok (.iconst 4, 1) := by decide +kernel
theorem dX9_init_25 : decode cX9_init 25 = .ok (.anewarray 22, 3) := by decide +kernel
theorem dX9_init_28 : decode cX9_init 28 = .ok (.putfield 24, 3) := by decide +kernel
theorem dX9_init_31 : decode cX9_init 31 = .ok (.aload_n 0, 1) := by decide +kernel
theorem dX9_init_32 : decode cX9_init 32 = .ok (.new 28, 3) := by decide +kernel
theorem dX9_init_35 : decode cX9_init 35 = .ok (.dup, 1) := by decide +kernel
theorem dX9_init_36 : decode cX9_init 36 = .ok (.aload_n 0, 1) := by decide +kernel
theorem dX9_init_37 : decode cX9_init 37 = .ok (.getfield 10, 3) := by decide +kernel
theorem dX9_init_40 : decode cX9_init 40 = .ok (.invokespecial 30, 3) := by decide +kernel
theorem dX9_init_43 : decode cX9_init 43 = .ok (.putfield 33, 3) := by decide +kernel
theorem dX9_init_46 : decode cX9_init 46 = .ok (.aload_n 0, 1) := by decide +kernel
theorem dX9_init_47 : decode cX9_init 47 = .ok (.new 28, 3) := by decide +kernel
theorem dX9_init_50 : decode cX9_init 50 = .ok (.dup, 1) := by decide +kernel
theorem dX9_init_51 : decode cX9_init 51 = .ok (.aload_n 0, 1) := by decide +kernel
theorem dX9_init_52 : decode cX9_init 52 = .ok (.getfield 10, 3) := by decide +kernel
theorem dX9_init_55 : decode cX9_init 55 = .ok (.invokespecial 30, 3) := by decide +kernel
theorem dX9_init_58 : decode cX9_init 58 = .ok (.putfield 37, 3) := by decide +kernel
theorem dX9_init_61 : decode cX9_init 61 = .ok (.aload_n 0, 1) := by decide +kernel
theorem dX9_init_62 : decode cX9_init 62 = .ok (.new 40, 3) := by decide +kernel
theorem dX9_init_65 : decode cX9_init 65 = .ok (.dup, 1) := by decide +kernel
theorem dX9_init_66 : decode cX9_init 66 = .ok (.aload_n 0, 1) := by decide +kernel
theorem dX9_init_67 : decode cX9_init 67 = .ok (.getfield 10, 3) := by decide +kernel
theorem dX9_init_70 : decode cX9_init 70 = .ok (.invokespecial 42, 3) := by decide +kernel
theorem dX9_init_73 : decode cX9_init 73 = .ok (.putfield 43, 3) := by decide +kernel
theorem dX9_init_76 : decode cX9_init 76 = .ok (.aload_n 0, 1) := by decide +kernel
theorem dX9_init_77 : decode cX9_init 77 = .ok (.iconst (-1), 1) := by decide +kernel
theorem dX9_init_78 : decode cX9_init 78 = .ok (.putfield 47, 3) := by decide +kernel
theorem dX9_init_81 : decode cX9_init 81 = .ok (.iconst 0, 1) := by decide +kernel
theorem dX9_init_82 : decode cX9_init 82 = .ok (.istore_n 1, 1) := by decide +kernel
theorem dX9_init_83 : decode cX9_init 83 = .ok (.iload_n 1, 1) := by decide +kernel
theorem dX9_init_84 : decode cX9_init 84 = .ok (.iconst 4, 1) := by decide +kernel
theorem dX9_init_85 : decode cX9_init 85 = .ok (.if_icmp .ge 22, 3) := by decide +kernel
theorem dX9_init_88 : decode cX9_init 88 = .ok (.aload_n 0, 1) := by decide +kernel
theorem dX9_init_89 : decode cX9_init 89 = .ok (.getfield 18, 3) := by decide +kernel
theorem dX9_init_92 : decode cX9_init 92 = .ok (.iload_n 1, 1) := by decide +kernel
theorem dX9_init_93 : decode cX9_init 93 = .ok (.new 16, 3) := by decide +kernel
theorem dX9_init_96 : decode cX9_init 96 = .ok (.dup, 1) := by decide +kernel
theorem dX9_init_97 : decode cX9_init 97 = .ok (.invokespecial 51, 3) := by decide +kernel
theorem dX9_init_100 : decode cX9_init 100 = .ok (.aastore, 1) := by decide +kernel
theorem dX9_init_101 : decode cX9_init 101 = .ok (.iinc 1 1, 3) := by decide +kernel
theorem dX9_init_104 : decode cX9_init 104 = .ok (.goto (-21), 3) := by decide +kernel
theorem dX9_init_107 : decode cX9_init 107 = .ok (.return_, 1) := by decide +kernel
theorem dX9_room_0 : decode cX9_room 0 = .ok (.iload_n 1, 1) := by decide +kernel
theorem dX9_room_1 : decode cX9_room 1 = .ok (.iconst 1, 1) := by decide +kernel
theorem dX9_room_2 : decode cX9_room 2 = .ok (.bipush 12, 2) := by decide +kernel
theorem dX9_room_4 : decode cX9_room 4 = .ok (.invokestatic 52, 3) := by decide +kernel
theorem dX9_room_7 : decode cX9_room 7 = .ok (.ifCond .eq 14, 3) := by decide +kernel
theorem dX9_room_10 : decode cX9_room 10 = .ok (.aload_n 0, 1) := by decide +kernel
theorem dX9_room_11 : decode cX9_room 11 = .ok (.getfield 10, 3) := by decide +kernel
theorem dX9_room_14 : decode cX9_room 14 = .ok (.invokevirtual 56, 3) := by decide +kernel
theorem dX9_room_17 : decode cX9_room 17 = .ok (.iload_n 1, 1) := by decide +kernel
theorem dX9_room_18 : decode cX9_room 18 = .ok (.if_icmp .le 5, 3) := by decide +kernel
theorem dX9_room_21 : decode cX9_room 21 = .ok (.iconst (-1), 1) := by decide +kernel
theorem dX9_room_22 : decode cX9_room 22 = .ok (.ireturn, 1) := by decide +kernel
theorem dX9_room_23 : decode cX9_room 23 = .ok (.aload_n 0, 1) := by decide +kernel
theorem dX9_room_24 : decode cX9_room 24 = .ok (.getfield 10, 3) := by decide +kernel
theorem dX9_room_27 : decode cX9_room 27 = .ok (.getfield 60, 3) := by decide +kernel
theorem dX9_room_30 : decode cX9_room 30 = .ok (.istore_n 2, 1) := by decide +kernel
theorem dX9_room_31 : decode cX9_room 31 = .ok (.aload_n 0, 1) := by decide +kernel
theorem dX9_room_32 : decode cX9_room 32 = .ok (.getfield 10, 3) := by decide +kernel
theorem dX9_room_35 : decode cX9_room 35 = .ok (.iload_n 1, 1) := by decide +kernel
theorem dX9_room_36 : decode cX9_room 36 = .ok (.putfield 60, 3) := by decide +kernel
theorem dX9_room_39 : decode cX9_room 39 = .ok (.iload_n 2, 1) := by decide +kernel
theorem dX9_room_40 : decode cX9_room 40 = .ok (.ireturn, 1) := by decide +kernel
theorem dX9_line_0 : decode cX9_line 0 = .ok (.iload_n 1, 1) := by decide +kernel
theorem dX9_line_1 : decode cX9_line 1 = .ok (.iconst 0, 1) := by decide +kernel
theorem dX9_line_2 : decode cX9_line 2 = .ok (.iconst 2, 1) := by decide +kernel
theorem dX9_line_3 : decode cX9_line 3 = .ok (.invokestatic 52, 3) := by decide +kernel
theorem dX9_line_6 : decode cX9_line 6 = .ok (.ifCond .eq 13, 3) := by decide +kernel
theorem dX9_line_9 : decode cX9_line 9 = .ok (.iload_n 2, 1) := by decide +kernel
theorem dX9_line_10 : decode cX9_line 10 = .ok (.iconst 0, 1) := by decide +kernel
theorem dX9_line_11 : decode cX9_line 11 = .ok (.bipush 12, 2) := by decide +kernel
theorem dX9_line_13 : decode cX9_line 13 = .ok (.invokestatic 52, 3) := by decide +kernel
theorem dX9_line_16 : decode cX9_line 16 = .ok (.ifCond .ne 5, 3) := by decide +kernel
theorem dX9_line_19 : decode cX9_line 19 = .ok (.iconst (-1), 1) := by decide +kernel
theorem dX9_line_20 : decode cX9_line 20 = .ok (.ireturn, 1) := by decide +kernel
theorem dX9_line_21 : decode cX9_line 21 = .ok (.iload_n 1, 1) := by decide +kernel
theorem dX9_line_22 : decode cX9_line 22 = .ok (.ifCond .ne 7, 3) := by decide +kernel
theorem dX9_line_25 : decode cX9_line 25 = .ok (.iconst 0, 1) := by decide +kernel
theorem dX9_line_26 : decode cX9_line 26 = .ok (.goto 4, 3) := by decide +kernel
theorem dX9_line_29 : decode cX9_line 29 = .ok (.iconst 1, 1) := by decide +kernel
theorem dX9_line_30 : decode cX9_line 30 = .ok (.istore_n 3, 1) := by decide +kernel
theorem dX9_line_31 : decode cX9_line 31 = .ok (.aload_n 0, 1) := by decide +kernel
theorem dX9_line_32 : decode cX9_line 32 = .ok (.getfield 10, 3) := by decide +kernel
theorem dX9_line_35 : decode cX9_line 35 = .ok (.invokevirtual 56, 3) := by decide +kernel
theorem dX9_line_38 : decode cX9_line 38 = .ok (.iload_n 3, 1) := by decide +kernel
theorem dX9_line_39 : decode cX9_line 39 = .ok (.iadd, 1) := by decide +kernel
theorem dX9_line_40 : decode cX9_line 40 = .ok (.aload_n 0, 1) := by decide +kernel
theorem dX9_line_41 : decode cX9_line 41 = .ok (.getfield 10, 3) := by decide +kernel
theorem dX9_line_44 : decode cX9_line 44 = .ok (.getfield 60, 3) := by decide +kernel
theorem dX9_line_47 : decode cX9_line 47 = .ok (.if_icmp .le 6, 3) := by decide +kernel
theorem dX9_line_50 : decode cX9_line 50 = .ok (.bipush (-2), 2) := by decide +kernel
theorem dX9_line_52 : decode cX9_line 52 = .ok (.ireturn, 1) := by decide +kernel
theorem dX9_line_53 : decode cX9_line 53 = .ok (.aload_n 0, 1) := by decide +kernel
theorem dX9_line_54 : decode cX9_line 54 = .ok (.getfield 10, 3) := by decide +kernel
theorem dX9_line_57 : decode cX9_line 57 = .ok (.getfield 65, 3) := by decide +kernel
theorem dX9_line_60 : decode cX9_line 60 = .ok (.iconst 4, 1) := by decide +kernel
theorem dX9_line_61 : decode cX9_line 61 = .ok (.if_icmp .lt 6, 3) := by decide +kernel
theorem dX9_line_64 : decode cX9_line 64 = .ok (.bipush (-3), 2) := by decide +kernel
theorem dX9_line_66 : decode cX9_line 66 = .ok (.ireturn, 1) := by decide +kernel
theorem dX9_line_67 : decode cX9_line 67 = .ok (.aload_n 0, 1) := by decide +kernel
theorem dX9_line_68 : decode cX9_line 68 = .ok (.getfield 10, 3) := by decide +kernel
theorem dX9_line_71 : decode cX9_line 71 = .ok (.iload_n 1, 1) := by decide +kernel
theorem dX9_line_72 : decode cX9_line 72 = .ok (.iload_n 2, 1) := by decide +kernel
theorem dX9_line_73 : decode cX9_line 73 = .ok (.invokestatic 68, 3) := by decide +kernel
theorem dX9_line_76 : decode cX9_line 76 = .ok (.invokevirtual 72, 3) := by decide +kernel
theorem dX9_line_79 : decode cX9_line 79 = .ok (.ireturn, 1) := by decide +kernel
theorem dX9_mark_0 : decode cX9_mark 0 = .ok (.aload_n 0, 1) := by decide +kernel
theorem dX9_mark_1 : decode cX9_mark 1 = .ok (.getfield 10, 3) := by decide +kernel
theorem dX9_mark_4 : decode cX9_mark 4 = .ok (.iload_n 1, 1) := by decide +kernel
theorem dX9_mark_5 : decode cX9_mark 5 = .ok (.invokevirtual 76, 3) := by decide +kernel
theorem dX9_mark_8 : decode cX9_mark 8 = .ok (.astore_n 3, 1) := by decide +kernel
theorem dX9_mark_9 : decode cX9_mark 9 = .ok (.aload_n 3, 1) := by decide +kernel
theorem dX9_mark_10 : decode cX9_mark 10 = .ok (.ifnull 13, 3) := by decide +kernel
theorem dX9_mark_13 : decode cX9_mark 13 = .ok (.iload_n 2, 1) := by decide +kernel
theorem dX9_mark_14 : decode cX9_mark 14 = .ok (.iconst 0, 1) := by decide +kernel
theorem dX9_mark_15 : decode cX9_mark 15 = .ok (.bipush 12, 2) := by decide +kernel
theorem dX9_mark_17 : decode cX9_mark 17 = .ok (.invokestatic 52, 3) := by decide +kernel
theorem dX9_mark_20 : decode cX9_mark 20 = .ok (.ifCond .ne 5, 3) := by decide +kernel
theorem dX9_mark_23 : decode cX9_mark 23 = .ok (.iconst (-1), 1) := by decide +kernel
theorem dX9_mark_24 : decode cX9_mark 24 = .ok (.ireturn, 1) := by decide +kernel
theorem dX9_mark_25 : decode cX9_mark 25 = .ok (.aload_n 3, 1) := by decide +kernel
theorem dX9_mark_26 : decode cX9_mark 26 = .ok (.getfield 80, 3) := by decide +kernel
theorem dX9_mark_29 : decode cX9_mark 29 = .ok (.istore 4, 2) := by decide +kernel
theorem dX9_mark_31 : decode cX9_mark 31 = .ok (.aload_n 3, 1) := by decide +kernel
theorem dX9_mark_32 : decode cX9_mark 32 = .ok (.iload_n 2, 1) := by decide +kernel
theorem dX9_mark_33 : decode cX9_mark 33 = .ok (.putfield 80, 3) := by decide +kernel
theorem dX9_mark_36 : decode cX9_mark 36 = .ok (.iload 4, 2) := by decide +kernel
theorem dX9_mark_38 : decode cX9_mark 38 = .ok (.ireturn, 1) := by decide +kernel
theorem dX9_pace_0 : decode cX9_pace 0 = .ok (.aload_n 0, 1) := by decide +kernel
theorem dX9_pace_1 : decode cX9_pace 1 = .ok (.getfield 10, 3) := by decide +kernel
theorem dX9_pace_4 : decode cX9_pace 4 = .ok (.iload_n 1, 1) := by decide +kernel
theorem dX9_pace_5 : decode cX9_pace 5 = .ok (.invokevirtual 76, 3) := by decide +kernel
theorem dX9_pace_8 : decode cX9_pace 8 = .ok (.astore_n 3, 1) := by decide +kernel
theorem dX9_pace_9 : decode cX9_pace 9 = .ok (.aload_n 3, 1) := by decide +kernel
theorem dX9_pace_10 : decode cX9_pace 10 = .ok (.ifnull 12, 3) := by decide +kernel
theorem dX9_pace_13 : decode cX9_pace 13 = .ok (.iload_n 2, 1) := by decide +kernel
theorem dX9_pace_14 : decode cX9_pace 14 = .ok (.iconst 1, 1) := by decide +kernel
theorem dX9_pace_15 : decode cX9_pace 15 = .ok (.iconst 5, 1) := by decide +kernel
theorem dX9_pace_16 : decode cX9_pace 16 = .ok (.invokestatic 52, 3) := by decide +kernel
theorem dX9_pace_19 : decode cX9_pace 19 = .ok (.ifCond .ne 5, 3) := by decide +kernel
theorem dX9_pace_22 : decode cX9_pace 22 = .ok (.iconst (-1), 1) := by decide +kernel
theorem dX9_pace_23 : decode cX9_pace 23 = .ok (.ireturn, 1) := by decide +kernel
theorem dX9_pace_24 : decode cX9_pace 24 = .ok (.aload_n 3, 1) := by decide +kernel
theorem dX9_pace_25 : decode cX9_pace 25 = .ok (.getfield 85, 3) := by decide +kernel
theorem dX9_pace_28 : decode cX9_pace 28 = .ok (.istore 4, 2) := by decide +kernel
theorem dX9_pace_30 : decode cX9_pace 30 = .ok (.aload_n 3, 1) := by decide +kernel
theorem dX9_pace_31 : decode cX9_pace 31 = .ok (.iload_n 2, 1) := by decide +kernel
theorem dX9_pace_32 : decode cX9_pace 32 = .ok (.putfield 85, 3) := by decide +kernel
theorem dX9_pace_35 : decode cX9_pace 35 = .ok (.iload 4, 2) := by decide +kernel
theorem dX9_pace_37 : decode cX9_pace 37 = .ok (.ireturn, 1) := by decide +kernel
theorem dX9_part_0 : decode cX9_part 0 = .ok (.aload_n 0, 1) := by decide +kernel
theorem dX9_part_1 : decode cX9_part 1 = .ok (.getfield 10, 3) := by decide +kernel
theorem dX9_part_4 : decode cX9_part 4 = .ok (.iload_n 1, 1) := by decide +kernel
theorem dX9_part_5 : decode cX9_part 5 = .ok (.invokevirtual 76, 3) := by decide +kernel
theorem dX9_part_8 : decode cX9_part 8 = .ok (.astore_n 3, 1) := by decide +kernel
theorem dX9_part_9 : decode cX9_part 9 = .ok (.aload_n 3, 1) := by decide +kernel
theorem dX9_part_10 : decode cX9_part 10 = .ok (.ifnull 13, 3) := by decide +kernel
theorem dX9_part_13 : decode cX9_part 13 = .ok (.iload_n 2, 1) := by decide +kernel
end
section
theorem dX9_part_14 : decode cX9_part 14 = .ok (.iconst 0, 1) := by decide +kernel
theorem dX9_part_15 : decode cX9_part 15 = .ok (.bipush 12, 2) := by decide +kernel
theorem dX9_part_17 : decode cX9_part 17 = .ok (.invokestatic 52, 3) := by decide +kernel
theorem dX9_part_20 : decode cX9_part 20 = .ok (.ifCond .ne 5, 3) := by decide +kernel
theorem dX9_part_23 : decode cX9_part 23 = .ok (.iconst (-1), 1) := by decide +kernel
theorem dX9_part_24 : decode cX9_part 24 = .ok (.ireturn, 1) := by decide +kernel
theorem dX9_part_25 : decode cX9_part 25 = .ok (.aload_n 3, 1) := by decide +kernel
theorem dX9_part_26 : decode cX9_part 26 = .ok (.instanceof 63, 3) := by decide +kernel
theorem dX9_part_29 : decode cX9_part 29 = .ok (.ifCond .eq 53, 3) := by decide +kernel
theorem dX9_part_32 : decode cX9_part 32 = .ok (.aload_n 3, 1) := by decide +kernel
theorem dX9_part_33 : decode cX9_part 33 = .ok (.checkcast 63, 3) := by decide +kernel
theorem dX9_part_36 : decode cX9_part 36 = .ok (.astore 4, 2) := by decide +kernel
theorem dX9_part_38 : decode cX9_part 38 = .ok (.aload_n 0, 1) := by decide +kernel
theorem dX9_part_39 : decode cX9_part 39 = .ok (.getfield 10, 3) := by decide +kernel
theorem dX9_part_42 : decode cX9_part 42 = .ok (.invokevirtual 56, 3) := by decide +kernel
theorem dX9_part_45 : decode cX9_part 45 = .ok (.aload 4, 2) := by decide +kernel
theorem dX9_part_47 : decode cX9_part 47 = .ok (.getfield 88, 3) := by decide +kernel
theorem dX9_part_50 : decode cX9_part 50 = .ok (.isub, 1) := by decide +kernel
theorem dX9_part_51 : decode cX9_part 51 = .ok (.iload_n 2, 1) := by decide +kernel
theorem dX9_part_52 : decode cX9_part 52 = .ok (.iadd, 1) := by decide +kernel
theorem dX9_part_53 : decode cX9_part 53 = .ok (.aload_n 0, 1) := by decide +kernel
theorem dX9_part_54 : decode cX9_part 54 = .ok (.getfield 10, 3) := by decide +kernel
theorem dX9_part_57 : decode cX9_part 57 = .ok (.getfield 60, 3) := by decide +kernel
theorem dX9_part_60 : decode cX9_part 60 = .ok (.if_icmp .le 6, 3) := by decide +kernel
theorem dX9_part_63 : decode cX9_part 63 = .ok (.bipush (-2), 2) := by decide +kernel
theorem dX9_part_65 : decode cX9_part 65 = .ok (.ireturn, 1) := by decide +kernel
theorem dX9_part_66 : decode cX9_part 66 = .ok (.aload 4, 2) := by decide +kernel
theorem dX9_part_68 : decode cX9_part 68 = .ok (.getfield 88, 3) := by decide +kernel
theorem dX9_part_71 : decode cX9_part 71 = .ok (.istore 5, 2) := by decide +kernel
theorem dX9_part_73 : decode cX9_part 73 = .ok (.aload 4, 2) := by decide +kernel
theorem dX9_part_75 : decode cX9_part 75 = .ok (.iload_n 2, 1) := by decide +kernel
theorem dX9_part_76 : decode cX9_part 76 = .ok (.putfield 88, 3) := by decide +kernel
theorem dX9_part_79 : decode cX9_part 79 = .ok (.iload 5, 2) := by decide +kernel
theorem dX9_part_81 : decode cX9_part 81 = .ok (.ireturn, 1) := by decide +kernel
theorem dX9_part_82 : decode cX9_part 82 = .ok (.bipush (-12), 2) := by decide +kernel
theorem dX9_part_84 : decode cX9_part 84 = .ok (.ireturn, 1) := by decide +kernel
theorem dX9_hold_0 : decode cX9_hold 0 = .ok (.aload_n 0, 1) := by decide +kernel
theorem dX9_hold_1 : decode cX9_hold 1 = .ok (.getfield 10, 3) := by decide +kernel
theorem dX9_hold_4 : decode cX9_hold 4 = .ok (.iload_n 1, 1) := by decide +kernel
theorem dX9_hold_5 : decode cX9_hold 5 = .ok (.invokevirtual 76, 3) := by decide +kernel
theorem dX9_hold_8 : decode cX9_hold 8 = .ok (.astore 5, 2) := by decide +kernel
theorem dX9_hold_10 : decode cX9_hold 10 = .ok (.aload 5, 2) := by decide +kernel
theorem dX9_hold_12 : decode cX9_hold 12 = .ok (.ifnull 34, 3) := by decide +kernel
theorem dX9_hold_15 : decode cX9_hold 15 = .ok (.iload_n 2, 1) := by decide +kernel
theorem dX9_hold_16 : decode cX9_hold 16 = .ok (.iconst 1, 1) := by decide +kernel
theorem dX9_hold_17 : decode cX9_hold 17 = .ok (.bipush 12, 2) := by decide +kernel
theorem dX9_hold_19 : decode cX9_hold 19 = .ok (.invokestatic 52, 3) := by decide +kernel
theorem dX9_hold_22 : decode cX9_hold 22 = .ok (.ifCond .eq 24, 3) := by decide +kernel
theorem dX9_hold_25 : decode cX9_hold 25 = .ok (.iload_n 3, 1) := by decide +kernel
theorem dX9_hold_26 : decode cX9_hold 26 = .ok (.iconst 0, 1) := by decide +kernel
theorem dX9_hold_27 : decode cX9_hold 27 = .ok (.iload_n 2, 1) := by decide +kernel
theorem dX9_hold_28 : decode cX9_hold 28 = .ok (.iconst 1, 1) := by decide +kernel
theorem dX9_hold_29 : decode cX9_hold 29 = .ok (.isub, 1) := by decide +kernel
theorem dX9_hold_30 : decode cX9_hold 30 = .ok (.invokestatic 52, 3) := by decide +kernel
theorem dX9_hold_33 : decode cX9_hold 33 = .ok (.ifCond .eq 13, 3) := by decide +kernel
theorem dX9_hold_36 : decode cX9_hold 36 = .ok (.iload 4, 2) := by decide +kernel
theorem dX9_hold_38 : decode cX9_hold 38 = .ok (.iconst 0, 1) := by decide +kernel
theorem dX9_hold_39 : decode cX9_hold 39 = .ok (.iconst 5, 1) := by decide +kernel
theorem dX9_hold_40 : decode cX9_hold 40 = .ok (.invokestatic 52, 3) := by decide +kernel
theorem dX9_hold_43 : decode cX9_hold 43 = .ok (.ifCond .ne 5, 3) := by decide +kernel
theorem dX9_hold_46 : decode cX9_hold 46 = .ok (.iconst (-1), 1) := by decide +kernel
theorem dX9_hold_47 : decode cX9_hold 47 = .ok (.ireturn, 1) := by decide +kernel
theorem dX9_hold_48 : decode cX9_hold 48 = .ok (.aload 5, 2) := by decide +kernel
theorem dX9_hold_50 : decode cX9_hold 50 = .ok (.instanceof 91, 3) := by decide +kernel
theorem dX9_hold_53 : decode cX9_hold 53 = .ok (.ifCond .eq 31, 3) := by decide +kernel
theorem dX9_hold_56 : decode cX9_hold 56 = .ok (.aload 5, 2) := by decide +kernel
theorem dX9_hold_58 : decode cX9_hold 58 = .ok (.checkcast 91, 3) := by decide +kernel
theorem dX9_hold_61 : decode cX9_hold 61 = .ok (.astore 6, 2) := by decide +kernel
theorem dX9_hold_63 : decode cX9_hold 63 = .ok (.aload 6, 2) := by decide +kernel
theorem dX9_hold_65 : decode cX9_hold 65 = .ok (.iload_n 2, 1) := by decide +kernel
theorem dX9_hold_66 : decode cX9_hold 66 = .ok (.putfield 93, 3) := by decide +kernel
theorem dX9_hold_69 : decode cX9_hold 69 = .ok (.aload 6, 2) := by decide +kernel
theorem dX9_hold_71 : decode cX9_hold 71 = .ok (.iload_n 3, 1) := by decide +kernel
theorem dX9_hold_72 : decode cX9_hold 72 = .ok (.putfield 96, 3) := by decide +kernel
theorem dX9_hold_75 : decode cX9_hold 75 = .ok (.aload 6, 2) := by decide +kernel
theorem dX9_hold_77 : decode cX9_hold 77 = .ok (.iload 4, 2) := by decide +kernel
theorem dX9_hold_79 : decode cX9_hold 79 = .ok (.putfield 99, 3) := by decide +kernel
theorem dX9_hold_82 : decode cX9_hold 82 = .ok (.iconst 1, 1) := by decide +kernel
theorem dX9_hold_83 : decode cX9_hold 83 = .ok (.ireturn, 1) := by decide +kernel
theorem dX9_hold_84 : decode cX9_hold 84 = .ok (.bipush (-12), 2) := by decide +kernel
theorem dX9_hold_86 : decode cX9_hold 86 = .ok (.ireturn, 1) := by decide +kernel
theorem dX9_told_0 : decode cX9_told 0 = .ok (.aload_n 0, 1) := by decide +kernel
theorem dX9_told_1 : decode cX9_told 1 = .ok (.getfield 10, 3) := by decide +kernel
theorem dX9_told_4 : decode cX9_told 4 = .ok (.iload_n 1, 1) := by decide +kernel
theorem dX9_told_5 : decode cX9_told 5 = .ok (.invokevirtual 76, 3) := by decide +kernel
theorem dX9_told_8 : decode cX9_told 8 = .ok (.astore_n 3, 1) := by decide +kernel
theorem dX9_told_9 : decode cX9_told 9 = .ok (.aload_n 3, 1) := by decide +kernel
theorem dX9_told_10 : decode cX9_told 10 = .ok (.ifnonnull 5, 3) := by decide +kernel
theorem dX9_told_13 : decode cX9_told 13 = .ok (.iconst (-1), 1) := by decide +kernel
theorem dX9_told_14 : decode cX9_told 14 = .ok (.ireturn, 1) := by decide +kernel
theorem dX9_told_15 : decode cX9_told 15 = .ok (.iload_n 2, 1) := by decide +kernel
theorem dX9_told_16 : decode cX9_told 16 = .ok (.tableswitch 92 0 7 #[48, 53, 58, 63, 63, 63, 63, 87], 48) := by decide +kernel
theorem dX9_told_64 : decode cX9_told 64 = .ok (.aload_n 3, 1) := by decide +kernel
theorem dX9_told_65 : decode cX9_told 65 = .ok (.invokevirtual 102, 3) := by decide +kernel
theorem dX9_told_68 : decode cX9_told 68 = .ok (.ireturn, 1) := by decide +kernel
theorem dX9_told_69 : decode cX9_told 69 = .ok (.aload_n 3, 1) := by decide +kernel
theorem dX9_told_70 : decode cX9_told 70 = .ok (.getfield 80, 3) := by decide +kernel
theorem dX9_told_73 : decode cX9_told 73 = .ok (.ireturn, 1) := by decide +kernel
theorem dX9_told_74 : decode cX9_told 74 = .ok (.aload_n 3, 1) := by decide +kernel
theorem dX9_told_75 : decode cX9_told 75 = .ok (.invokevirtual 105, 3) := by decide +kernel
theorem dX9_told_78 : decode cX9_told 78 = .ok (.ireturn, 1) := by decide +kernel
theorem dX9_told_79 : decode cX9_told 79 = .ok (.aload_n 3, 1) := by decide +kernel
theorem dX9_told_80 : decode cX9_told 80 = .ok (.instanceof 91, 3) := by decide +kernel
theorem dX9_told_83 : decode cX9_told 83 = .ok (.ifCond .eq 18, 3) := by decide +kernel
theorem dX9_told_86 : decode cX9_told 86 = .ok (.aload_n 3, 1) := by decide +kernel
theorem dX9_told_87 : decode cX9_told 87 = .ok (.checkcast 91, 3) := by decide +kernel
theorem dX9_told_90 : decode cX9_told 90 = .ok (.astore 4, 2) := by decide +kernel
theorem dX9_told_92 : decode cX9_told 92 = .ok (.aload 4, 2) := by decide +kernel
theorem dX9_told_94 : decode cX9_told 94 = .ok (.iload_n 2, 1) := by decide +kernel
theorem dX9_told_95 : decode cX9_told 95 = .ok (.invokevirtual 108, 3) := by decide +kernel
theorem dX9_told_98 : decode cX9_told 98 = .ok (.goto 4, 3) := by decide +kernel
theorem dX9_told_101 : decode cX9_told 101 = .ok (.iconst 0, 1) := by decide +kernel
theorem dX9_told_102 : decode cX9_told 102 = .ok (.ireturn, 1) := by decide +kernel
theorem dX9_told_103 : decode cX9_told 103 = .ok (.aload_n 3, 1) := by decide +kernel
theorem dX9_told_104 : decode cX9_told 104 = .ok (.getfield 85, 3) := by decide +kernel
theorem dX9_told_107 : decode cX9_told 107 = .ok (.ireturn, 1) := by decide +kernel
theorem dX9_told_108 : decode cX9_told 108 = .ok (.iconst (-1), 1) := by decide +kernel
theorem dX9_told_109 : decode cX9_told 109 = .ok (.ireturn, 1) := by decide +kernel
theorem dX9_share_0 : decode cX9_share 0 = .ok (.iload_n 1, 1) := by decide +kernel
theorem dX9_share_1 : decode cX9_share 1 = .ok (.iconst 1, 1) := by decide +kernel
theorem dX9_share_2 : decode cX9_share 2 = .ok (.sipush 160, 3) := by decide +kernel
theorem dX9_share_5 : decode cX9_share 5 = .ok (.invokestatic 52, 3) := by decide +kernel
theorem dX9_share_8 : decode cX9_share 8 = .ok (.ifCond .ne 5, 3) := by decide +kernel
theorem dX9_share_11 : decode cX9_share 11 = .ok (.iconst (-1), 1) := by decide +kernel
theorem dX9_share_12 : decode cX9_share 12 = .ok (.ireturn, 1) := by decide +kernel
theorem dX9_share_13 : decode cX9_share 13 = .ok (.aload_n 0, 1) := by decide +kernel
theorem dX9_share_14 : decode cX9_share 14 = .ok (.getfield 10, 3) := by decide +kernel
theorem dX9_share_17 : decode cX9_share 17 = .ok (.getfield 112, 3) := by decide +kernel
theorem dX9_share_20 : decode cX9_share 20 = .ok (.istore_n 2, 1) := by decide +kernel
theorem dX9_share_21 : decode cX9_share 21 = .ok (.aload_n 0, 1) := by decide +kernel
theorem dX9_share_22 : decode cX9_share 22 = .ok (.getfield 10, 3) := by decide +kernel
theorem dX9_share_25 : decode cX9_share 25 = .ok (.iload_n 1, 1) := by decide +kernel
theorem dX9_share_26 : decode cX9_share 26 = .ok (.putfield 112, 3) := by decide +kernel
theorem dX9_share_29 : decode cX9_share 29 = .ok (.iload_n 2, 1) := by decide +kernel
theorem dX9_share_30 : decode cX9_share 30 = .ok (.ireturn, 1) := by decide +kernel
theorem dX9_sheet_0 : decode cX9_sheet 0 = .ok (.iload_n 1, 1) := by decide +kernel
theorem dX9_sheet_1 : decode cX9_sheet 1 = .ok (.invokestatic 115, 3) := by decide +kernel
theorem dX9_sheet_4 : decode cX9_sheet 4 = .ok (.ifCond .eq 17, 3) := by decide +kernel
theorem dX9_sheet_7 : decode cX9_sheet 7 = .ok (.iload_n 2, 1) := by decide +kernel
theorem dX9_sheet_8 : decode cX9_sheet 8 = .ok (.invokestatic 119, 3) := by decide +kernel
theorem dX9_sheet_11 : decode cX9_sheet 11 = .ok (.ifCond .eq 10, 3) := by decide +kernel
theorem dX9_sheet_14 : decode cX9_sheet 14 = .ok (.iload_n 3, 1) := by decide +kernel
theorem dX9_sheet_15 : decode cX9_sheet 15 = .ok (.sipush 160, 3) := by decide +kernel
theorem dX9_sheet_18 : decode cX9_sheet 18 = .ok (.if_icmp .le 5, 3) := by decide +kernel
theorem dX9_sheet_21 : decode cX9_sheet 21 = .ok (.iconst (-1), 1) := by decide +kernel
theorem dX9_sheet_22 : decode cX9_sheet 22 = .ok (.ireturn, 1) := by decide +kernel
theorem dX9_sheet_23 : decode cX9_sheet 23 = .ok (.iload_n 3, 1) := by decide +kernel
theorem dX9_sheet_24 : decode cX9_sheet 24 = .ok (.ifCond .ge 6, 3) := by decide +kernel
theorem dX9_sheet_27 : decode cX9_sheet 27 = .ok (.bipush (-14), 2) := by decide +kernel
theorem dX9_sheet_29 : decode cX9_sheet 29 = .ok (.ireturn, 1) := by decide +kernel
theorem dX9_sheet_30 : decode cX9_sheet 30 = .ok (.aload_n 0, 1) := by decide +kernel
theorem dX9_sheet_31 : decode cX9_sheet 31 = .ok (.getfield 24, 3) := by decide +kernel
theorem dX9_sheet_34 : decode cX9_sheet 34 = .ok (.iload_n 1, 1) := by decide +kernel
theorem dX9_sheet_35 : decode cX9_sheet 35 = .ok (.new 22, 3) := by decide +kernel
theorem dX9_sheet_38 : decode cX9_sheet 38 = .ok (.dup, 1) := by decide +kernel
theorem dX9_sheet_39 : decode cX9_sheet 39 = .ok (.iload_n 2, 1) := by decide +kernel
theorem dX9_sheet_40 : decode cX9_sheet 40 = .ok (.iload_n 3, 1) := by decide +kernel
theorem dX9_sheet_41 : decode cX9_sheet 41 = .ok (.invokespecial 122, 3) := by decide +kernel
theorem dX9_sheet_44 : decode cX9_sheet 44 = .ok (.aastore, 1) := by decide +kernel
theorem dX9_sheet_45 : decode cX9_sheet 45 = .ok (.iload_n 3, 1) := by decide +kernel
theorem dX9_sheet_46 : decode cX9_sheet 46 = .ok (.ireturn, 1) := by decide +kernel
theorem dX9_drop_0 : decode cX9_drop 0 = .ok (.iload_n 1, 1) := by decide +kernel
theorem dX9_drop_1 : decode cX9_drop 1 = .ok (.invokestatic 115, 3) := by decide +kernel
theorem dX9_drop_4 : decode cX9_drop 4 = .ok (.ifCond .ne 5, 3) := by decide +kernel
theorem dX9_drop_7 : decode cX9_drop 7 = .ok (.iconst (-1), 1) := by decide +kernel
theorem dX9_drop_8 : decode cX9_drop 8 = .ok (.ireturn, 1) := by decide +kernel
theorem dX9_drop_9 : decode cX9_drop 9 = .ok (.aload_n 0, 1) := by decide +kernel
theorem dX9_drop_10 : decode cX9_drop 10 = .ok (.getfield 24, 3) := by decide +kernel
theorem dX9_drop_13 : decode cX9_drop 13 = .ok (.iload_n 1, 1) := by decide +kernel
theorem dX9_drop_14 : decode cX9_drop 14 = .ok (.aaload, 1) := by decide +kernel
theorem dX9_drop_15 : decode cX9_drop 15 = .ok (.astore_n 2, 1) := by decide +kernel
theorem dX9_drop_16 : decode cX9_drop 16 = .ok (.aload_n 2, 1) := by decide +kernel
theorem dX9_drop_17 : decode cX9_drop 17 = .ok (.ifnonnull 6, 3) := by decide +kernel
theorem dX9_drop_20 : decode cX9_drop 20 = .ok (.bipush (-11), 2) := by decide +kernel
theorem dX9_drop_22 : decode cX9_drop 22 = .ok (.ireturn, 1) := by decide +kernel
theorem dX9_drop_23 : decode cX9_drop 23 = .ok (.aload_n 0, 1) := by decide +kernel
theorem dX9_drop_24 : decode cX9_drop 24 = .ok (.getfield 24, 3) := by decide +kernel
theorem dX9_drop_27 : decode cX9_drop 27 = .ok (.iload_n 1, 1) := by decide +kernel
theorem dX9_drop_28 : decode cX9_drop 28 = .ok (.aconst_null, 1) := by decide +kernel
theorem dX9_drop_29 : decode cX9_drop 29 = .ok (.aastore, 1) := by decide +kernel
theorem dX9_drop_30 : decode cX9_drop 30 = .ok (.aload_n 2, 1) := by decide +kernel
theorem dX9_drop_31 : decode cX9_drop 31 = .ok (.getfield 125, 3) := by decide +kernel
theorem dX9_drop_34 : decode cX9_drop 34 = .ok (.arraylength, 1) := by decide +kernel
theorem dX9_drop_35 : decode cX9_drop 35 = .ok (.ireturn, 1) := by decide +kernel
theorem dX9_item_0 : decode cX9_item 0 = .ok (.iload_n 1, 1) := by decide +kernel
theorem dX9_item_1 : decode cX9_item 1 = .ok (.invokestatic 115, 3) := by decide +kernel
theorem dX9_item_4 : decode cX9_item 4 = .ok (.ifCond .eq 10, 3) := by decide +kernel
theorem dX9_item_7 : decode cX9_item 7 = .ok (.iload_n 2, 1) := by decide +kernel
theorem dX9_item_8 : decode cX9_item 8 = .ok (.invokestatic 119, 3) := by decide +kernel
theorem dX9_item_11 : decode cX9_item 11 = .ok (.ifCond .ne 5, 3) := by decide +kernel
theorem dX9_item_14 : decode cX9_item 14 = .ok (.iconst (-1), 1) := by decide +kernel
theorem dX9_item_15 : decode cX9_item 15 = .ok (.ireturn, 1) := by decide +kernel
theorem dX9_item_16 : decode cX9_item 16 = .ok (.aload_n 0, 1) := by decide +kernel
theorem dX9_item_17 : decode cX9_item 17 = .ok (.getfield 24, 3) := by decide +kernel
theorem dX9_item_20 : decode cX9_item 20 = .ok (.iload_n 1, 1) := by decide +kernel
theorem dX9_item_21 : decode cX9_item 21 = .ok (.aaload, 1) := by decide +kernel
theorem dX9_item_22 : decode cX9_item 22 = .ok (.astore 5, 2) := by decide +kernel
theorem dX9_item_24 : decode cX9_item 24 = .ok (.aload 5, 2) := by decide +kernel
theorem dX9_item_26 : decode cX9_item 26 = .ok (.ifnonnull 6, 3) := by decide +kernel
theorem dX9_item_29 : decode cX9_item 29 = .ok (.bipush (-11), 2) := by decide +kernel
theorem dX9_item_31 : decode cX9_item 31 = .ok (.ireturn, 1) := by decide +kernel
theorem dX9_item_32 : decode cX9_item 32 = .ok (.aload 5, 2) := by decide +kernel
theorem dX9_item_34 : decode cX9_item 34 = .ok (.getfield 129, 3) := by decide +kernel
theorem dX9_item_37 : decode cX9_item 37 = .ok (.iload_n 2, 1) := by decide +kernel
theorem dX9_item_38 : decode cX9_item 38 = .ok (.if_icmp .eq 6, 3) := by decide +kernel
theorem dX9_item_41 : decode cX9_item 41 = .ok (.bipush (-12), 2) := by decide +kernel
theorem dX9_item_43 : decode cX9_item 43 = .ok (.ireturn, 1) := by decide +kernel
theorem dX9_item_44 : decode cX9_item 44 = .ok (.aload 5, 2) := by decide +kernel
theorem dX9_item_46 : decode cX9_item 46 = .ok (.iload_n 3, 1) := by decide +kernel
theorem dX9_item_47 : decode cX9_item 47 = .ok (.iconst 1, 1) := by decide +kernel
theorem dX9_item_48 : decode cX9_item 48 = .ok (.invokevirtual 132, 3) := by decide +kernel
theorem dX9_item_51 : decode cX9_item 51 = .ok (.ifCond .ne 6, 3) := by decide +kernel
theorem dX9_item_54 : decode cX9_item 54 = .ok (.bipush (-13), 2) := by decide +kernel
theorem dX9_item_56 : decode cX9_item 56 = .ok (.ireturn, 1) := by decide +kernel
theorem dX9_item_57 : decode cX9_item 57 = .ok (.aload 5, 2) := by decide +kernel
theorem dX9_item_59 : decode cX9_item 59 = .ok (.iload_n 3, 1) := by decide +kernel
theorem dX9_item_60 : decode cX9_item 60 = .ok (.iload 4, 2) := by decide +kernel
theorem dX9_item_62 : decode cX9_item 62 = .ok (.invokevirtual 136, 3) := by decide +kernel
theorem dX9_item_65 : decode cX9_item 65 = .ok (.iconst 1, 1) := by decide +kernel
theorem dX9_item_66 : decode cX9_item 66 = .ok (.ireturn, 1) := by decide +kernel
theorem dX9_copy_0 : decode cX9_copy 0 = .ok (.iload_n 1, 1) := by decide +kernel
theorem dX9_copy_1 : decode cX9_copy 1 = .ok (.invokestatic 115, 3) := by decide +kernel
theorem dX9_copy_4 : decode cX9_copy 4 = .ok (.ifCond .eq 10, 3) := by decide +kernel
theorem dX9_copy_7 : decode cX9_copy 7 = .ok (.iload_n 3, 1) := by decide +kernel
theorem dX9_copy_8 : decode cX9_copy 8 = .ok (.invokestatic 115, 3) := by decide +kernel
theorem dX9_copy_11 : decode cX9_copy 11 = .ok (.ifCond .ne 5, 3) := by decide +kernel
theorem dX9_copy_14 : decode cX9_copy 14 = .ok (.iconst (-1), 1) := by decide +kernel
theorem dX9_copy_15 : decode cX9_copy 15 = .ok (.ireturn, 1) := by decide +kernel
theorem dX9_copy_16 : decode cX9_copy 16 = .ok (.aload_n 0, 1) := by decide +kernel
theorem dX9_copy_17 : decode cX9_copy 17 = .ok (.getfield 24, 3) := by decide +kernel
theorem dX9_copy_20 : decode cX9_copy 20 = .ok (.iload_n 1, 1) := by decide +kernel
theorem dX9_copy_21 : decode cX9_copy 21 = .ok (.aaload, 1) := by decide +kernel
theorem dX9_copy_22 : decode cX9_copy 22 = .ok (.astore 6, 2) := by decide +kernel
theorem dX9_copy_24 : decode cX9_copy 24 = .ok (.aload_n 0, 1) := by decide +kernel
theorem dX9_copy_25 : decode cX9_copy 25 = .ok (.getfield 24, 3) := by decide +kernel
theorem dX9_copy_28 : decode cX9_copy 28 = .ok (.iload_n 3, 1) := by decide +kernel
theorem dX9_copy_29 : decode cX9_copy 29 = .ok (.aaload, 1) := by decide +kernel
theorem dX9_copy_30 : decode cX9_copy 30 = .ok (.astore 7, 2) := by decide +kernel
theorem dX9_copy_32 : decode cX9_copy 32 = .ok (.aload 6, 2) := by decide +kernel
theorem dX9_copy_34 : decode cX9_copy 34 = .ok (.ifnull 8, 3) := by decide +kernel
theorem dX9_copy_37 : decode cX9_copy 37 = .ok (.aload 7, 2) := by decide +kernel
theorem dX9_copy_39 : decode cX9_copy 39 = .ok (.ifnonnull 6, 3) := by decide +kernel
theorem dX9_copy_42 : decode cX9_copy 42 = .ok (.bipush (-11), 2) := by decide +kernel
theorem dX9_copy_44 : decode cX9_copy 44 = .ok (.ireturn, 1) := by decide +kernel
theorem dX9_copy_45 : decode cX9_copy 45 = .ok (.aload 6, 2) := by decide +kernel
theorem dX9_copy_47 : decode cX9_copy 47 = .ok (.getfield 129, 3) := by decide +kernel
theorem dX9_copy_50 : decode cX9_copy 50 = .ok (.aload 7, 2) := by decide +kernel
theorem dX9_copy_52 : decode cX9_copy 52 = .ok (.getfield 129, 3) := by decide +kernel
theorem dX9_copy_55 : decode cX9_copy 55 = .ok (.if_icmp .eq 6, 3) := by decide +kernel
theorem dX9_copy_58 : decode cX9_copy 58 = .ok (.bipush (-12), 2) := by decide +kernel
theorem dX9_copy_60 : decode cX9_copy 60 = .ok (.ireturn, 1) := by decide +kernel
theorem dX9_copy_61 : decode cX9_copy 61 = .ok (.aload 6, 2) := by decide +kernel
theorem dX9_copy_63 : decode cX9_copy 63 = .ok (.iload_n 2, 1) := by decide +kernel
theorem dX9_copy_64 : decode cX9_copy 64 = .ok (.iload 5, 2) := by decide +kernel
theorem dX9_copy_66 : decode cX9_copy 66 = .ok (.invokevirtual 132, 3) := by decide +kernel
theorem dX9_copy_69 : decode cX9_copy 69 = .ok (.ifCond .eq 15, 3) := by decide +kernel
theorem dX9_copy_72 : decode cX9_copy 72 = .ok (.aload 7, 2) := by decide +kernel
theorem dX9_copy_74 : decode cX9_copy 74 = .ok (.iload 4, 2) := by decide +kernel
theorem dX9_copy_76 : decode cX9_copy 76 = .ok (.iload 5, 2) := by decide +kernel
theorem dX9_copy_78 : decode cX9_copy 78 = .ok (.invokevirtual 132, 3) := by decide +kernel
theorem dX9_copy_81 : decode cX9_copy 81 = .ok (.ifCond .ne 6, 3) := by decide +kernel
theorem dX9_copy_84 : decode cX9_copy 84 = .ok (.bipush (-13), 2) := by decide +kernel
theorem dX9_copy_86 : decode cX9_copy 86 = .ok (.ireturn, 1) := by decide +kernel
theorem dX9_copy_87 : decode cX9_copy 87 = .ok (.aload 6, 2) := by decide +kernel
theorem dX9_copy_89 : decode cX9_copy 89 = .ok (.getfield 125, 3) := by decide +kernel
theorem dX9_copy_92 : decode cX9_copy 92 = .ok (.iload_n 2, 1) := by decide +kernel
theorem dX9_copy_93 : decode cX9_copy 93 = .ok (.aload 7, 2) := by decide +kernel
theorem dX9_copy_95 : decode cX9_copy 95 = .ok (.getfield 125, 3) := by decide +kernel
theorem dX9_copy_98 : decode cX9_copy 98 = .ok (.iload 4, 2) := by decide +kernel
theorem dX9_copy_100 : decode cX9_copy 100 = .ok (.iload 5, 2) := by decide +kernel
theorem dX9_copy_102 : decode cX9_copy 102 = .ok (.invokestatic 139, 3) := by decide +kernel
theorem dX9_copy_105 : decode cX9_copy 105 = .ok (.iload 5, 2) := by decide +kernel
theorem dX9_copy_107 : decode cX9_copy 107 = .ok (.ireturn, 1) := by decide +kernel
theorem dX9_letters_0 : decode cX9_letters 0 = .ok (.aload_n 0, 1) := by decide +kernel
theorem dX9_letters_1 : decode cX9_letters 1 = .ok (.iload_n 1, 1) := by decide +kernel
theorem dX9_letters_2 : decode cX9_letters 2 = .ok (.invokevirtual 145, 3) := by decide +kernel
theorem dX9_letters_5 : decode cX9_letters 5 = .ok (.astore 6, 2) := by decide +kernel
theorem dX9_letters_7 : decode cX9_letters 7 = .ok (.aload 6, 2) := by decide +kernel
theorem dX9_letters_9 : decode cX9_letters 9 = .ok (.ifnull 28, 3) := by decide +kernel
theorem dX9_letters_12 : decode cX9_letters 12 = .ok (.iload_n 2, 1) := by decide +kernel
theorem dX9_letters_13 : decode cX9_letters 13 = .ok (.invokestatic 115, 3) := by decide +kernel
theorem dX9_letters_16 : decode cX9_letters 16 = .ok (.ifCond .eq 21, 3) := by decide +kernel
theorem dX9_letters_19 : decode cX9_letters 19 = .ok (.iload_n 3, 1) := by decide +kernel
theorem dX9_letters_20 : decode cX9_letters 20 = .ok (.invokestatic 119, 3) := by decide +kernel
theorem dX9_letters_23 : decode cX9_letters 23 = .ok (.ifCond .eq 14, 3) := by decide +kernel
theorem dX9_letters_26 : decode cX9_letters 26 = .ok (.iload 5, 2) := by decide +kernel
theorem dX9_letters_28 : decode cX9_letters 28 = .ok (.iconst 0, 1) := by decide +kernel
theorem dX9_letters_29 : decode cX9_letters 29 = .ok (.bipush 80, 2) := by decide +kernel
theorem dX9_letters_31 : decode cX9_letters 31 = .ok (.invokestatic 52, 3) := by decide +kernel
theorem dX9_letters_34 : decode cX9_letters 34 = .ok (.ifCond .ne 5, 3) := by decide +kernel
theorem dX9_letters_37 : decode cX9_letters 37 = .ok (.iconst (-1), 1) := by decide +kernel
theorem dX9_letters_38 : decode cX9_letters 38 = .ok (.ireturn, 1) := by decide +kernel
theorem dX9_letters_39 : decode cX9_letters 39 = .ok (.aload_n 0, 1) := by decide +kernel
theorem dX9_letters_40 : decode cX9_letters 40 = .ok (.getfield 24, 3) := by decide +kernel
theorem dX9_letters_43 : decode cX9_letters 43 = .ok (.iload_n 2, 1) := by decide +kernel
theorem dX9_letters_44 : decode cX9_letters 44 = .ok (.aaload, 1) := by decide +kernel
theorem dX9_letters_45 : decode cX9_letters 45 = .ok (.astore 7, 2) := by decide +kernel
theorem dX9_letters_47 : decode cX9_letters 47 = .ok (.aload 7, 2) := by decide +kernel
theorem dX9_letters_49 : decode cX9_letters 49 = .ok (.ifnonnull 6, 3) := by decide +kernel
theorem dX9_letters_52 : decode cX9_letters 52 = .ok (.bipush (-11), 2) := by decide +kernel
theorem dX9_letters_54 : decode cX9_letters 54 = .ok (.ireturn, 1) := by decide +kernel
theorem dX9_letters_55 : decode cX9_letters 55 = .ok (.aload 7, 2) := by decide +kernel
theorem dX9_letters_57 : decode cX9_letters 57 = .ok (.getfield 129, 3) := by decide +kernel
theorem dX9_letters_60 : decode cX9_letters 60 = .ok (.iload_n 3, 1) := by decide +kernel
theorem dX9_letters_61 : decode cX9_letters 61 = .ok (.if_icmp .eq 6, 3) := by decide +kernel
theorem dX9_letters_64 : decode cX9_letters 64 = .ok (.bipush (-12), 2) := by decide +kernel
theorem dX9_letters_66 : decode cX9_letters 66 = .ok (.ireturn, 1) := by decide +kernel
theorem dX9_letters_67 : decode cX9_letters 67 = .ok (.aload 7, 2) := by decide +kernel
theorem dX9_letters_69 : decode cX9_letters 69 = .ok (.iload 4, 2) := by decide +kernel
theorem dX9_letters_71 : decode cX9_letters 71 = .ok (.iconst 2, 1) := by decide +kernel
theorem dX9_letters_72 : decode cX9_letters 72 = .ok (.iload 5, 2) := by decide +kernel
theorem dX9_letters_74 : decode cX9_letters 74 = .ok (.imul, 1) := by decide +kernel
theorem dX9_letters_75 : decode cX9_letters 75 = .ok (.invokevirtual 132, 3) := by decide +kernel
theorem dX9_letters_78 : decode cX9_letters 78 = .ok (.ifCond .ne 6, 3) := by decide +kernel
theorem dX9_letters_81 : decode cX9_letters 81 = .ok (.bipush (-13), 2) := by decide +kernel
theorem dX9_letters_83 : decode cX9_letters 83 = .ok (.ireturn, 1) := by decide +kernel
theorem dX9_letters_84 : decode cX9_letters 84 = .ok (.aload_n 0, 1) := by decide +kernel
theorem dX9_letters_85 : decode cX9_letters 85 = .ok (.aload 7, 2) := by decide +kernel
theorem dX9_letters_87 : decode cX9_letters 87 = .ok (.iload 4, 2) := by decide +kernel
theorem dX9_letters_89 : decode cX9_letters 89 = .ok (.iload 5, 2) := by decide +kernel
theorem dX9_letters_91 : decode cX9_letters 91 = .ok (.aload 6, 2) := by decide +kernel
theorem dX9_letters_93 : decode cX9_letters 93 = .ok (.invokevirtual 149, 3) := by decide +kernel
theorem dX9_letters_96 : decode cX9_letters 96 = .ok (.invokevirtual 152, 3) := by decide +kernel
theorem dX9_letters_99 : decode cX9_letters 99 = .ok (.ifCond .ne 6, 3) := by decide +kernel
theorem dX9_letters_102 : decode cX9_letters 102 = .ok (.bipush (-2), 2) := by decide +kernel
theorem dX9_letters_104 : decode cX9_letters 104 = .ok (.ireturn, 1) := by decide +kernel
theorem dX9_letters_105 : decode cX9_letters 105 = .ok (.aload 6, 2) := by decide +kernel
theorem dX9_letters_107 : decode cX9_letters 107 = .ok (.getfield 156, 3) := by decide +kernel
theorem dX9_letters_110 : decode cX9_letters 110 = .ok (.iload 5, 2) := by decide +kernel
theorem dX9_letters_112 : decode cX9_letters 112 = .ok (.iadd, 1) := by decide +kernel
theorem dX9_letters_113 : decode cX9_letters 113 = .ok (.bipush 80, 2) := by decide +kernel
theorem dX9_letters_115 : decode cX9_letters 115 = .ok (.if_icmp .le 6, 3) := by decide +kernel
theorem dX9_letters_118 : decode cX9_letters 118 = .ok (.bipush (-3), 2) := by decide +kernel
theorem dX9_letters_120 : decode cX9_letters 120 = .ok (.ireturn, 1) := by decide +kernel
theorem dX9_letters_121 : decode cX9_letters 121 = .ok (.aload 6, 2) := by decide +kernel
theorem dX9_letters_123 : decode cX9_letters 123 = .ok (.aload 7, 2) := by decide +kernel
theorem dX9_letters_125 : decode cX9_letters 125 = .ok (.iload 4, 2) := by decide +kernel
theorem dX9_letters_127 : decode cX9_letters 127 = .ok (.iload 5, 2) := by decide +kernel
theorem dX9_letters_129 : decode cX9_letters 129 = .ok (.invokevirtual 159, 3) := by decide +kernel
theorem dX9_letters_132 : decode cX9_letters 132 = .ok (.aload 6, 2) := by decide +kernel
theorem dX9_letters_134 : decode cX9_letters 134 = .ok (.getfield 156, 3) := by decide +kernel
theorem dX9_letters_137 : decode cX9_letters 137 = .ok (.ireturn, 1) := by decide +kernel
theorem dX9_clear_0 : decode cX9_clear 0 = .ok (.aload_n 0, 1) := by decide +kernel
theorem dX9_clear_1 : decode cX9_clear 1 = .ok (.iload_n 1, 1) := by decide +kernel
theorem dX9_clear_2 : decode cX9_clear 2 = .ok (.invokevirtual 145, 3) := by decide +kernel
theorem dX9_clear_5 : decode cX9_clear 5 = .ok (.astore_n 2, 1) := by decide +kernel
theorem dX9_clear_6 : decode cX9_clear 6 = .ok (.aload_n 2, 1) := by decide +kernel
theorem dX9_clear_7 : decode cX9_clear 7 = .ok (.ifnonnull 5, 3) := by decide +kernel
theorem dX9_clear_10 : decode cX9_clear 10 = .ok (.iconst (-1), 1) := by decide +kernel
theorem dX9_clear_11 : decode cX9_clear 11 = .ok (.ireturn, 1) := by decide +kernel
theorem dX9_clear_12 : decode cX9_clear 12 = .ok (.aload_n 2, 1) := by decide +kernel
theorem dX9_clear_13 : decode cX9_clear 13 = .ok (.getfield 156, 3) := by decide +kernel
theorem dX9_clear_16 : decode cX9_clear 16 = .ok (.istore_n 3, 1) := by decide +kernel
theorem dX9_clear_17 : decode cX9_clear 17 = .ok (.aload_n 2, 1) := by decide +kernel
theorem dX9_clear_18 : decode cX9_clear 18 = .ok (.iconst 0, 1) := by decide +kernel
theorem dX9_clear_19 : decode cX9_clear 19 = .ok (.putfield 156, 3) := by decide +kernel
theorem dX9_clear_22 : decode cX9_clear 22 = .ok (.aload_n 2, 1) := by decide +kernel
theorem dX9_clear_23 : decode cX9_clear 23 = .ok (.iconst 0, 1) := by decide +kernel
theorem dX9_clear_24 : decode cX9_clear 24 = .ok (.putfield 163, 3) := by decide +kernel
theorem dX9_clear_27 : decode cX9_clear 27 = .ok (.iload_n 3, 1) := by decide +kernel
theorem dX9_clear_28 : decode cX9_clear 28 = .ok (.ireturn, 1) := by decide +kernel
theorem dX9_letter_0 : decode cX9_letter 0 = .ok (.aload_n 0, 1) := by decide +kernel
theorem dX9_letter_1 : decode cX9_letter 1 = .ok (.iload_n 1, 1) := by decide +kernel
theorem dX9_letter_2 : decode cX9_letter 2 = .ok (.invokevirtual 145, 3) := by decide +kernel
theorem dX9_letter_5 : decode cX9_letter 5 = .ok (.astore 4, 2) := by decide +kernel
theorem dX9_letter_7 : decode cX9_letter 7 = .ok (.aload 4, 2) := by decide +kernel
theorem dX9_letter_9 : decode cX9_letter 9 = .ok (.ifnonnull 5, 3) := by decide +kernel
theorem dX9_letter_12 : decode cX9_letter 12 = .ok (.iconst (-1), 1) := by decide +kernel
theorem dX9_letter_13 : decode cX9_letter 13 = .ok (.ireturn, 1) := by decide +kernel
theorem dX9_letter_14 : decode cX9_letter 14 = .ok (.iload_n 2, 1) := by decide +kernel
theorem dX9_letter_15 : decode cX9_letter 15 = .ok (.iconst (-1), 1) := by decide +kernel
theorem dX9_letter_16 : decode cX9_letter 16 = .ok (.if_icmp .ne 9, 3) := by decide +kernel
theorem dX9_letter_19 : decode cX9_letter 19 = .ok (.aload 4, 2) := by decide +kernel
theorem dX9_letter_21 : decode cX9_letter 21 = .ok (.getfield 156, 3) := by decide +kernel
theorem dX9_letter_24 : decode cX9_letter 24 = .ok (.ireturn, 1) := by decide +kernel
theorem dX9_letter_25 : decode cX9_letter 25 = .ok (.iload_n 2, 1) := by decide +kernel
theorem dX9_letter_26 : decode cX9_letter 26 = .ok (.iconst 0, 1) := by decide +kernel
theorem dX9_letter_27 : decode cX9_letter 27 = .ok (.aload 4, 2) := by decide +kernel
theorem dX9_letter_29 : decode cX9_letter 29 = .ok (.getfield 156, 3) := by decide +kernel
theorem dX9_letter_32 : decode cX9_letter 32 = .ok (.iconst 1, 1) := by decide +kernel
theorem dX9_letter_33 : decode cX9_letter 33 = .ok (.isub, 1) := by decide +kernel
theorem dX9_letter_34 : decode cX9_letter 34 = .ok (.invokestatic 52, 3) := by decide +kernel
theorem dX9_letter_37 : decode cX9_letter 37 = .ok (.ifCond .eq 12, 3) := by decide +kernel
theorem dX9_letter_40 : decode cX9_letter 40 = .ok (.iload_n 3, 1) := by decide +kernel
theorem dX9_letter_41 : decode cX9_letter 41 = .ok (.iconst 0, 1) := by decide +kernel
theorem dX9_letter_42 : decode cX9_letter 42 = .ok (.iconst 1, 1) := by decide +kernel
theorem dX9_letter_43 : decode cX9_letter 43 = .ok (.invokestatic 52, 3) := by decide +kernel
theorem dX9_letter_46 : decode cX9_letter 46 = .ok (.ifCond .ne 5, 3) := by decide +kernel
theorem dX9_letter_49 : decode cX9_letter 49 = .ok (.iconst (-1), 1) := by decide +kernel
theorem dX9_letter_50 : decode cX9_letter 50 = .ok (.ireturn, 1) := by decide +kernel
theorem dX9_letter_51 : decode cX9_letter 51 = .ok (.iload_n 3, 1) := by decide +kernel
theorem dX9_letter_52 : decode cX9_letter 52 = .ok (.ifCond .ne 13, 3) := by decide +kernel
theorem dX9_letter_55 : decode cX9_letter 55 = .ok (.aload 4, 2) := by decide +kernel
theorem dX9_letter_57 : decode cX9_letter 57 = .ok (.getfield 167, 3) := by decide +kernel
theorem dX9_letter_60 : decode cX9_letter 60 = .ok (.iload_n 2, 1) := by decide +kernel
theorem dX9_letter_61 : decode cX9_letter 61 = .ok (.iaload, 1) := by decide +kernel
theorem dX9_letter_62 : decode cX9_letter 62 = .ok (.goto 10, 3) := by decide +kernel
theorem dX9_letter_65 : decode cX9_letter 65 = .ok (.aload 4, 2) := by decide +kernel
theorem dX9_letter_67 : decode cX9_letter 67 = .ok (.getfield 170, 3) := by decide +kernel
theorem dX9_letter_70 : decode cX9_letter 70 = .ok (.iload_n 2, 1) := by decide +kernel
theorem dX9_letter_71 : decode cX9_letter 71 = .ok (.iaload, 1) := by decide +kernel
theorem dX9_letter_72 : decode cX9_letter 72 = .ok (.ireturn, 1) := by decide +kernel
theorem dX9_run_0 : decode cX9_run 0 = .ok (.aload_n 0, 1) := by decide +kernel
theorem dX9_run_1 : decode cX9_run 1 = .ok (.iload_n 1, 1) := by decide +kernel
theorem dX9_run_2 : decode cX9_run 2 = .ok (.invokevirtual 145, 3) := by decide +kernel
theorem dX9_run_5 : decode cX9_run 5 = .ok (.astore_n 3, 1) := by decide +kernel
theorem dX9_run_6 : decode cX9_run 6 = .ok (.aload_n 3, 1) := by decide +kernel
theorem dX9_run_7 : decode cX9_run 7 = .ok (.ifnull 12, 3) := by decide +kernel
theorem dX9_run_10 : decode cX9_run 10 = .ok (.iload_n 2, 1) := by decide +kernel
theorem dX9_run_11 : decode cX9_run 11 = .ok (.iconst 0, 1) := by decide +kernel
theorem dX9_run_12 : decode cX9_run 12 = .ok (.iconst 3, 1) := by decide +kernel
theorem dX9_run_13 : decode cX9_run 13 = .ok (.invokestatic 52, 3) := by decide +kernel
theorem dX9_run_16 : decode cX9_run 16 = .ok (.ifCond .ne 5, 3) := by decide +kernel
theorem dX9_run_19 : decode cX9_run 19 = .ok (.iconst (-1), 1) := by decide +kernel
theorem dX9_run_20 : decode cX9_run 20 = .ok (.ireturn, 1) := by decide +kernel
theorem dX9_run_21 : decode cX9_run 21 = .ok (.aload_n 0, 1) := by decide +kernel
theorem dX9_run_22 : decode cX9_run 22 = .ok (.getfield 33, 3) := by decide +kernel
theorem dX9_run_25 : decode cX9_run 25 = .ok (.aload_n 3, 1) := by decide +kernel
theorem dX9_run_26 : decode cX9_run 26 = .ok (.iload_n 2, 1) := by decide +kernel
theorem dX9_run_27 : decode cX9_run 27 = .ok (.iconst 1, 1) := by decide +kernel
theorem dX9_run_28 : decode cX9_run 28 = .ok (.invokevirtual 173, 3) := by decide +kernel
theorem dX9_run_31 : decode cX9_run 31 = .ok (.aload_n 0, 1) := by decide +kernel
theorem dX9_run_32 : decode cX9_run 32 = .ok (.iconst 1, 1) := by decide +kernel
theorem dX9_run_33 : decode cX9_run 33 = .ok (.putfield 177, 3) := by decide +kernel
theorem dX9_run_36 : decode cX9_run 36 = .ok (.aload_n 0, 1) := by decide +kernel
theorem dX9_run_37 : decode cX9_run 37 = .ok (.getfield 33, 3) := by decide +kernel
theorem dX9_run_40 : decode cX9_run 40 = .ok (.iconst (-1), 1) := by decide +kernel
theorem dX9_run_41 : decode cX9_run 41 = .ok (.iconst 0, 1) := by decide +kernel
theorem dX9_run_42 : decode cX9_run 42 = .ok (.invokevirtual 180, 3) := by decide +kernel
theorem dX9_run_45 : decode cX9_run 45 = .ok (.ireturn, 1) := by decide +kernel
theorem dX9_fate_0 : decode cX9_fate 0 = .ok (.aload_n 0, 1) := by decide +kernel
theorem dX9_fate_1 : decode cX9_fate 1 = .ok (.getfield 177, 3) := by decide +kernel
theorem dX9_fate_4 : decode cX9_fate 4 = .ok (.ifCond .eq 20, 3) := by decide +kernel
theorem dX9_fate_7 : decode cX9_fate 7 = .ok (.iload_n 1, 1) := by decide +kernel
theorem dX9_fate_8 : decode cX9_fate 8 = .ok (.iconst 0, 1) := by decide +kernel
theorem dX9_fate_9 : decode cX9_fate 9 = .ok (.aload_n 0, 1) := by decide +kernel
theorem dX9_fate_10 : decode cX9_fate 10 = .ok (.getfield 33, 3) := by decide +kernel
theorem dX9_fate_13 : decode cX9_fate 13 = .ok (.getfield 184, 3) := by decide +kernel
theorem dX9_fate_16 : decode cX9_fate 16 = .ok (.iconst 1, 1) := by decide +kernel
theorem dX9_fate_17 : decode cX9_fate 17 = .ok (.isub, 1) := by decide +kernel
theorem dX9_fate_18 : decode cX9_fate 18 = .ok (.invokestatic 52, 3) := by decide +kernel
theorem dX9_fate_21 : decode cX9_fate 21 = .ok (.ifCond .ne 5, 3) := by decide +kernel
theorem dX9_fate_24 : decode cX9_fate 24 = .ok (.iconst (-1), 1) := by decide +kernel
theorem dX9_fate_25 : decode cX9_fate 25 = .ok (.ireturn, 1) := by decide +kernel
theorem dX9_fate_26 : decode cX9_fate 26 = .ok (.iload_n 2, 1) := by decide +kernel
theorem dX9_fate_27 : decode cX9_fate 27 = .ok (.tableswitch 55 0 2 #[25, 35, 45], 25) := by decide +kernel
theorem dX9_fate_52 : decode cX9_fate 52 = .ok (.aload_n 0, 1) := by decide +kernel
theorem dX9_fate_53 : decode cX9_fate 53 = .ok (.getfield 33, 3) := by decide +kernel
theorem dX9_fate_56 : decode cX9_fate 56 = .ok (.getfield 187, 3) := by decide +kernel
theorem dX9_fate_59 : decode cX9_fate 59 = .ok (.iload_n 1, 1) := by decide +kernel
theorem dX9_fate_60 : decode cX9_fate 60 = .ok (.iaload, 1) := by decide +kernel
theorem dX9_fate_61 : decode cX9_fate 61 = .ok (.ireturn, 1) := by decide +kernel
theorem dX9_fate_62 : decode cX9_fate 62 = .ok (.aload_n 0, 1) := by decide +kernel
theorem dX9_fate_63 : decode cX9_fate 63 = .ok (.getfield 33, 3) := by decide +kernel
theorem dX9_fate_66 : decode cX9_fate 66 = .ok (.getfield 190, 3) := by decide +kernel
theorem dX9_fate_69 : decode cX9_fate 69 = .ok (.iload_n 1, 1) := by decide +kernel
theorem dX9_fate_70 : decode cX9_fate 70 = .ok (.iaload, 1) := by decide +kernel
theorem dX9_fate_71 : decode cX9_fate 71 = .ok (.ireturn, 1) := by decide +kernel
theorem dX9_fate_72 : decode cX9_fate 72 = .ok (.aload_n 0, 1) := by decide +kernel
theorem dX9_fate_73 : decode cX9_fate 73 = .ok (.getfield 33, 3) := by decide +kernel
theorem dX9_fate_76 : decode cX9_fate 76 = .ok (.getfield 193, 3) := by decide +kernel
theorem dX9_fate_79 : decode cX9_fate 79 = .ok (.iload_n 1, 1) := by decide +kernel
theorem dX9_fate_80 : decode cX9_fate 80 = .ok (.iaload, 1) := by decide +kernel
theorem dX9_fate_81 : decode cX9_fate 81 = .ok (.ireturn, 1) := by decide +kernel
theorem dX9_fate_82 : decode cX9_fate 82 = .ok (.iconst (-1), 1) := by decide +kernel
theorem dX9_fate_83 : decode cX9_fate 83 = .ok (.ireturn, 1) := by decide +kernel
theorem dX9_sum_0 : decode cX9_sum 0 = .ok (.aload_n 0, 1) := by decide +kernel
theorem dX9_sum_1 : decode cX9_sum 1 = .ok (.getfield 177, 3) := by decide +kernel
theorem dX9_sum_4 : decode cX9_sum 4 = .ok (.ifCond .eq 29, 3) := by decide +kernel
theorem dX9_sum_7 : decode cX9_sum 7 = .ok (.iload_n 1, 1) := by decide +kernel
theorem dX9_sum_8 : decode cX9_sum 8 = .ok (.iconst (-1), 1) := by decide +kernel
theorem dX9_sum_9 : decode cX9_sum 9 = .ok (.aload_n 0, 1) := by decide +kernel
theorem dX9_sum_10 : decode cX9_sum 10 = .ok (.getfield 10, 3) := by decide +kernel
theorem dX9_sum_13 : decode cX9_sum 13 = .ok (.getfield 65, 3) := by decide +kernel
theorem dX9_sum_16 : decode cX9_sum 16 = .ok (.iconst 1, 1) := by decide +kernel
theorem dX9_sum_17 : decode cX9_sum 17 = .ok (.isub, 1) := by decide +kernel
theorem dX9_sum_18 : decode cX9_sum 18 = .ok (.invokestatic 52, 3) := by decide +kernel
theorem dX9_sum_21 : decode cX9_sum 21 = .ok (.ifCond .eq 12, 3) := by decide +kernel
theorem dX9_sum_24 : decode cX9_sum 24 = .ok (.iload_n 2, 1) := by decide +kernel
theorem dX9_sum_25 : decode cX9_sum 25 = .ok (.iconst 0, 1) := by decide +kernel
theorem dX9_sum_26 : decode cX9_sum 26 = .ok (.iconst 4, 1) := by decide +kernel
theorem dX9_sum_27 : decode cX9_sum 27 = .ok (.invokestatic 52, 3) := by decide +kernel
theorem dX9_sum_30 : decode cX9_sum 30 = .ok (.ifCond .ne 5, 3) := by decide +kernel
theorem dX9_sum_33 : decode cX9_sum 33 = .ok (.iconst (-1), 1) := by decide +kernel
theorem dX9_sum_34 : decode cX9_sum 34 = .ok (.ireturn, 1) := by decide +kernel
theorem dX9_sum_35 : decode cX9_sum 35 = .ok (.iload_n 2, 1) := by decide +kernel
theorem dX9_sum_36 : decode cX9_sum 36 = .ok (.iconst 4, 1) := by decide +kernel
theorem dX9_sum_37 : decode cX9_sum 37 = .ok (.if_icmp .eq 13, 3) := by decide +kernel
theorem dX9_sum_40 : decode cX9_sum 40 = .ok (.aload_n 0, 1) := by decide +kernel
theorem dX9_sum_41 : decode cX9_sum 41 = .ok (.getfield 33, 3) := by decide +kernel
theorem dX9_sum_44 : decode cX9_sum 44 = .ok (.iload_n 1, 1) := by decide +kernel
theorem dX9_sum_45 : decode cX9_sum 45 = .ok (.iload_n 2, 1) := by decide +kernel
theorem dX9_sum_46 : decode cX9_sum 46 = .ok (.invokevirtual 180, 3) := by decide +kernel
theorem dX9_sum_49 : decode cX9_sum 49 = .ok (.ireturn, 1) := by decide +kernel
theorem dX9_sum_50 : decode cX9_sum 50 = .ok (.iload_n 1, 1) := by decide +kernel
theorem dX9_sum_51 : decode cX9_sum 51 = .ok (.iconst (-1), 1) := by decide +kernel
theorem dX9_sum_52 : decode cX9_sum 52 = .ok (.if_icmp .ne 13, 3) := by decide +kernel
theorem dX9_sum_55 : decode cX9_sum 55 = .ok (.aload_n 0, 1) := by decide +kernel
theorem dX9_sum_56 : decode cX9_sum 56 = .ok (.getfield 33, 3) := by decide +kernel
theorem dX9_sum_59 : decode cX9_sum 59 = .ok (.getfield 196, 3) := by decide +kernel
theorem dX9_sum_62 : decode cX9_sum 62 = .ok (.goto 12, 3) := by decide +kernel
theorem dX9_sum_65 : decode cX9_sum 65 = .ok (.aload_n 0, 1) := by decide +kernel
theorem dX9_sum_66 : decode cX9_sum 66 = .ok (.getfield 33, 3) := by decide +kernel
theorem dX9_sum_69 : decode cX9_sum 69 = .ok (.getfield 199, 3) := by decide +kernel
theorem dX9_sum_72 : decode cX9_sum 72 = .ok (.iload_n 1, 1) := by decide +kernel
theorem dX9_sum_73 : decode cX9_sum 73 = .ok (.iaload, 1) := by decide +kernel
theorem dX9_sum_74 : decode cX9_sum 74 = .ok (.ireturn, 1) := by decide +kernel
theorem dX9_length_0 : decode cX9_length 0 = .ok (.aload_n 0, 1) := by decide +kernel
theorem dX9_length_1 : decode cX9_length 1 = .ok (.getfield 177, 3) := by decide +kernel
theorem dX9_length_4 : decode cX9_length 4 = .ok (.ifCond .eq 25, 3) := by decide +kernel
theorem dX9_length_7 : decode cX9_length 7 = .ok (.aload_n 0, 1) := by decide +kernel
theorem dX9_length_8 : decode cX9_length 8 = .ok (.getfield 10, 3) := by decide +kernel
theorem dX9_length_11 : decode cX9_length 11 = .ok (.iload_n 1, 1) := by decide +kernel
theorem dX9_length_12 : decode cX9_length 12 = .ok (.invokevirtual 76, 3) := by decide +kernel
theorem dX9_length_15 : decode cX9_length 15 = .ok (.ifnull 14, 3) := by decide +kernel
theorem dX9_length_18 : decode cX9_length 18 = .ok (.iload_n 2, 1) := by decide +kernel
theorem dX9_length_19 : decode cX9_length 19 = .ok (.iconst 0, 1) := by decide +kernel
theorem dX9_length_20 : decode cX9_length 20 = .ok (.sipush 399, 3) := by decide +kernel
theorem dX9_length_23 : decode cX9_length 23 = .ok (.invokestatic 52, 3) := by decide +kernel
theorem dX9_length_26 : decode cX9_length 26 = .ok (.ifCond .ne 5, 3) := by decide +kernel
theorem dX9_length_29 : decode cX9_length 29 = .ok (.iconst (-1), 1) := by decide +kernel
theorem dX9_length_30 : decode cX9_length 30 = .ok (.ireturn, 1) := by decide +kernel
theorem dX9_length_31 : decode cX9_length 31 = .ok (.aload_n 0, 1) := by decide +kernel
theorem dX9_length_32 : decode cX9_length 32 = .ok (.getfield 33, 3) := by decide +kernel
theorem dX9_length_35 : decode cX9_length 35 = .ok (.iload_n 1, 1) := by decide +kernel
theorem dX9_length_36 : decode cX9_length 36 = .ok (.iload_n 2, 1) := by decide +kernel
theorem dX9_length_37 : decode cX9_length 37 = .ok (.invokevirtual 202, 3) := by decide +kernel
theorem dX9_length_40 : decode cX9_length 40 = .ok (.ireturn, 1) := by decide +kernel
theorem dX9_ticks_0 : decode cX9_ticks 0 = .ok (.aload_n 0, 1) := by decide +kernel
theorem dX9_ticks_1 : decode cX9_ticks 1 = .ok (.getfield 177, 3) := by decide +kernel
theorem dX9_ticks_4 : decode cX9_ticks 4 = .ok (.ifCond .eq 13, 3) := by decide +kernel
theorem dX9_ticks_7 : decode cX9_ticks 7 = .ok (.aload_n 0, 1) := by decide +kernel
theorem dX9_ticks_8 : decode cX9_ticks 8 = .ok (.getfield 33, 3) := by decide +kernel
theorem dX9_ticks_11 : decode cX9_ticks 11 = .ok (.getfield 205, 3) := by decide +kernel
theorem dX9_ticks_14 : decode cX9_ticks 14 = .ok (.goto 4, 3) := by decide +kernel
theorem dX9_ticks_17 : decode cX9_ticks 17 = .ok (.iconst (-1), 1) := by decide +kernel
theorem dX9_ticks_18 : decode cX9_ticks 18 = .ok (.ireturn, 1) := by decide +kernel
theorem dX9_best_0 : decode cX9_best 0 = .ok (.aload_n 0, 1) := by decide +kernel
theorem dX9_best_1 : decode cX9_best 1 = .ok (.iload_n 1, 1) := by decide +kernel
theorem dX9_best_2 : decode cX9_best 2 = .ok (.invokevirtual 145, 3) := by decide +kernel
theorem dX9_best_5 : decode cX9_best 5 = .ok (.astore_n 2, 1) := by decide +kernel
theorem dX9_best_6 : decode cX9_best 6 = .ok (.aload_n 2, 1) := by decide +kernel
theorem dX9_best_7 : decode cX9_best 7 = .ok (.ifnonnull 7, 3) := by decide +kernel
theorem dX9_best_10 : decode cX9_best 10 = .ok (.iconst (-1), 1) := by decide +kernel
theorem dX9_best_11 : decode cX9_best 11 = .ok (.goto 11, 3) := by decide +kernel
theorem dX9_best_14 : decode cX9_best 14 = .ok (.aload_n 0, 1) := by decide +kernel
theorem dX9_best_15 : decode cX9_best 15 = .ok (.getfield 43, 3) := by decide +kernel
theorem dX9_best_18 : decode cX9_best 18 = .ok (.aload_n 2, 1) := by decide +kernel
theorem dX9_best_19 : decode cX9_best 19 = .ok (.invokevirtual 208, 3) := by decide +kernel
theorem dX9_best_22 : decode cX9_best 22 = .ok (.ireturn, 1) := by decide +kernel
theorem dX9_shortBy_0 : decode cX9_shortBy 0 = .ok (.aload_n 0, 1) := by decide +kernel
theorem dX9_shortBy_1 : decode cX9_shortBy 1 = .ok (.iload_n 1, 1) := by decide +kernel
theorem dX9_shortBy_2 : decode cX9_shortBy 2 = .ok (.invokevirtual 145, 3) := by decide +kernel
theorem dX9_shortBy_5 : decode cX9_shortBy 5 = .ok (.astore_n 3, 1) := by decide +kernel
theorem dX9_shortBy_6 : decode cX9_shortBy 6 = .ok (.aload_n 3, 1) := by decide +kernel
theorem dX9_shortBy_7 : decode cX9_shortBy 7 = .ok (.ifnull 12, 3) := by decide +kernel
theorem dX9_shortBy_10 : decode cX9_shortBy 10 = .ok (.iload_n 2, 1) := by decide +kernel
theorem dX9_shortBy_11 : decode cX9_shortBy 11 = .ok (.iconst 0, 1) := by decide +kernel
theorem dX9_shortBy_12 : decode cX9_shortBy 12 = .ok (.iconst 2, 1) := by decide +kernel
theorem dX9_shortBy_13 : decode cX9_shortBy 13 = .ok (.invokestatic 52, 3) := by decide +kernel
theorem dX9_shortBy_16 : decode cX9_shortBy 16 = .ok (.ifCond .ne 5, 3) := by decide +kernel
theorem dX9_shortBy_19 : decode cX9_shortBy 19 = .ok (.iconst (-1), 1) := by decide +kernel
theorem dX9_shortBy_20 : decode cX9_shortBy 20 = .ok (.ireturn, 1) := by decide +kernel
theorem dX9_shortBy_21 : decode cX9_shortBy 21 = .ok (.aload_n 0, 1) := by decide +kernel
theorem dX9_shortBy_22 : decode cX9_shortBy 22 = .ok (.getfield 37, 3) := by decide +kernel
theorem dX9_shortBy_25 : decode cX9_shortBy 25 = .ok (.aload_n 3, 1) := by decide +kernel
theorem dX9_shortBy_26 : decode cX9_shortBy 26 = .ok (.iload_n 2, 1) := by decide +kernel
theorem dX9_shortBy_27 : decode cX9_shortBy 27 = .ok (.iconst 0, 1) := by decide +kernel
theorem dX9_shortBy_28 : decode cX9_shortBy 28 = .ok (.invokevirtual 173, 3) := by decide +kernel
theorem dX9_shortBy_31 : decode cX9_shortBy 31 = .ok (.aload_n 0, 1) := by decide +kernel
theorem dX9_shortBy_32 : decode cX9_shortBy 32 = .ok (.getfield 43, 3) := by decide +kernel
theorem dX9_shortBy_35 : decode cX9_shortBy 35 = .ok (.aload_n 3, 1) := by decide +kernel
theorem dX9_shortBy_36 : decode cX9_shortBy 36 = .ok (.invokevirtual 208, 3) := by decide +kernel
theorem dX9_shortBy_39 : decode cX9_shortBy 39 = .ok (.aload_n 0, 1) := by decide +kernel
theorem dX9_shortBy_40 : decode cX9_shortBy 40 = .ok (.getfield 37, 3) := by decide +kernel
theorem dX9_shortBy_43 : decode cX9_shortBy 43 = .ok (.iconst (-1), 1) := by decide +kernel
theorem dX9_shortBy_44 : decode cX9_shortBy 44 = .ok (.iconst 0, 1) := by decide +kernel
theorem dX9_shortBy_45 : decode cX9_shortBy 45 = .ok (.invokevirtual 180, 3) := by decide +kernel
theorem dX9_shortBy_48 : decode cX9_shortBy 48 = .ok (.isub, 1) := by decide +kernel
theorem dX9_shortBy_49 : decode cX9_shortBy 49 = .ok (.ireturn, 1) := by decide +kernel
theorem dX9_pass_0 : decode cX9_pass 0 = .ok (.aload_n 0, 1) := by decide +kernel
theorem dX9_pass_1 : decode cX9_pass 1 = .ok (.iload_n 1, 1) := by decide +kernel
theorem dX9_pass_2 : decode cX9_pass 2 = .ok (.invokevirtual 145, 3) := by decide +kernel
theorem dX9_pass_5 : decode cX9_pass 5 = .ok (.astore_n 3, 1) := by decide +kernel
theorem dX9_pass_6 : decode cX9_pass 6 = .ok (.aload_n 3, 1) := by decide +kernel
theorem dX9_pass_7 : decode cX9_pass 7 = .ok (.ifnonnull 5, 3) := by decide +kernel
theorem dX9_pass_10 : decode cX9_pass 10 = .ok (.iconst (-1), 1) := by decide +kernel
theorem dX9_pass_11 : decode cX9_pass 11 = .ok (.ireturn, 1) := by decide +kernel
theorem dX9_pass_12 : decode cX9_pass 12 = .ok (.aload_n 3, 1) := by decide +kernel
theorem dX9_pass_13 : decode cX9_pass 13 = .ok (.iload_n 2, 1) := by decide +kernel
theorem dX9_pass_14 : decode cX9_pass 14 = .ok (.putfield 163, 3) := by decide +kernel
theorem dX9_pass_17 : decode cX9_pass 17 = .ok (.iconst 0, 1) := by decide +kernel
theorem dX9_pass_18 : decode cX9_pass 18 = .ok (.istore 4, 2) := by decide +kernel
theorem dX9_pass_20 : decode cX9_pass 20 = .ok (.iconst 0, 1) := by decide +kernel
theorem dX9_pass_21 : decode cX9_pass 21 = .ok (.istore 5, 2) := by decide +kernel
theorem dX9_pass_23 : decode cX9_pass 23 = .ok (.iload 5, 2) := by decide +kernel
theorem dX9_pass_25 : decode cX9_pass 25 = .ok (.iconst 4, 1) := by decide +kernel
theorem dX9_pass_26 : decode cX9_pass 26 = .ok (.if_icmp .ge 25, 3) := by decide +kernel
theorem dX9_pass_29 : decode cX9_pass 29 = .ok (.aload_n 0, 1) := by decide +kernel
theorem dX9_pass_30 : decode cX9_pass 30 = .ok (.getfield 18, 3) := by decide +kernel
theorem dX9_pass_33 : decode cX9_pass 33 = .ok (.iload 5, 2) := by decide +kernel
theorem dX9_pass_35 : decode cX9_pass 35 = .ok (.aaload, 1) := by decide +kernel
theorem dX9_pass_36 : decode cX9_pass 36 = .ok (.getfield 163, 3) := by decide +kernel
theorem dX9_pass_39 : decode cX9_pass 39 = .ok (.ifCond .eq 6, 3) := by decide +kernel
theorem dX9_pass_42 : decode cX9_pass 42 = .ok (.iinc 4 1, 3) := by decide +kernel
theorem dX9_pass_45 : decode cX9_pass 45 = .ok (.iinc 5 1, 3) := by decide +kernel
theorem dX9_pass_48 : decode cX9_pass 48 = .ok (.goto (-25), 3) := by decide +kernel
theorem dX9_pass_51 : decode cX9_pass 51 = .ok (.iload 4, 2) := by decide +kernel
theorem dX9_pass_53 : decode cX9_pass 53 = .ok (.ireturn, 1) := by decide +kernel
theorem dX9_marks_0 : decode cX9_marks 0 = .ok (.iconst 1, 1) := by decide +kernel
theorem dX9_marks_1 : decode cX9_marks 1 = .ok (.istore_n 1, 1) := by decide +kernel
theorem dX9_marks_2 : decode cX9_marks 2 = .ok (.iconst 0, 1) := by decide +kernel
theorem dX9_marks_3 : decode cX9_marks 3 = .ok (.istore_n 2, 1) := by decide +kernel
theorem dX9_marks_4 : decode cX9_marks 4 = .ok (.iload_n 2, 1) := by decide +kernel
theorem dX9_marks_5 : decode cX9_marks 5 = .ok (.iconst 4, 1) := by decide +kernel
theorem dX9_marks_6 : decode cX9_marks 6 = .ok (.if_icmp .ge 54, 3) := by decide +kernel
theorem dX9_marks_9 : decode cX9_marks 9 = .ok (.aload_n 0, 1) := by decide +kernel
theorem dX9_marks_10 : decode cX9_marks 10 = .ok (.getfield 18, 3) := by decide +kernel
theorem dX9_marks_13 : decode cX9_marks 13 = .ok (.iload_n 2, 1) := by decide +kernel
theorem dX9_marks_14 : decode cX9_marks 14 = .ok (.aaload, 1) := by decide +kernel
theorem dX9_marks_15 : decode cX9_marks 15 = .ok (.getfield 163, 3) := by decide +kernel
theorem dX9_marks_18 : decode cX9_marks 18 = .ok (.ifCond .eq 36, 3) := by decide +kernel
theorem dX9_marks_21 : decode cX9_marks 21 = .ok (.aload_n 0, 1) := by decide +kernel
theorem dX9_marks_22 : decode cX9_marks 22 = .ok (.getfield 43, 3) := by decide +kernel
theorem dX9_marks_25 : decode cX9_marks 25 = .ok (.aload_n 0, 1) := by decide +kernel
theorem dX9_marks_26 : decode cX9_marks 26 = .ok (.getfield 18, 3) := by decide +kernel
theorem dX9_marks_29 : decode cX9_marks 29 = .ok (.iload_n 2, 1) := by decide +kernel
theorem dX9_marks_30 : decode cX9_marks 30 = .ok (.aaload, 1) := by decide +kernel
theorem dX9_marks_31 : decode cX9_marks 31 = .ok (.invokevirtual 212, 3) := by decide +kernel
theorem dX9_marks_34 : decode cX9_marks 34 = .ok (.istore_n 3, 1) := by decide +kernel
theorem dX9_marks_35 : decode cX9_marks 35 = .ok (.iload_n 3, 1) := by decide +kernel
theorem dX9_marks_36 : decode cX9_marks 36 = .ok (.iconst (-1), 1) := by decide +kernel
theorem dX9_marks_37 : decode cX9_marks 37 = .ok (.if_icmp .ne 11, 3) := by decide +kernel
theorem dX9_marks_40 : decode cX9_marks 40 = .ok (.aload_n 0, 1) := by decide +kernel
theorem dX9_marks_41 : decode cX9_marks 41 = .ok (.iload_n 2, 1) := by decide +kernel
theorem dX9_marks_42 : decode cX9_marks 42 = .ok (.putfield 47, 3) := by decide +kernel
theorem dX9_marks_45 : decode cX9_marks 45 = .ok (.bipush (-2), 2) := by decide +kernel
theorem dX9_marks_47 : decode cX9_marks 47 = .ok (.ireturn, 1) := by decide +kernel
theorem dX9_marks_48 : decode cX9_marks 48 = .ok (.iload_n 1, 1) := by decide +kernel
theorem dX9_marks_49 : decode cX9_marks 49 = .ok (.iload_n 3, 1) := by decide +kernel
theorem dX9_marks_50 : decode cX9_marks 50 = .ok (.invokestatic 215, 3) := by decide +kernel
theorem dX9_marks_53 : decode cX9_marks 53 = .ok (.istore_n 1, 1) := by decide +kernel
theorem dX9_marks_54 : decode cX9_marks 54 = .ok (.iinc 2 1, 3) := by decide +kernel
theorem dX9_marks_57 : decode cX9_marks 57 = .ok (.goto (-53), 3) := by decide +kernel
theorem dX9_marks_60 : decode cX9_marks 60 = .ok (.aload_n 0, 1) := by decide +kernel
theorem dX9_marks_61 : decode cX9_marks 61 = .ok (.iconst (-1), 1) := by decide +kernel
theorem dX9_marks_62 : decode cX9_marks 62 = .ok (.putfield 47, 3) := by decide +kernel
theorem dX9_marks_65 : decode cX9_marks 65 = .ok (.iload_n 1, 1) := by decide +kernel
theorem dX9_marks_66 : decode cX9_marks 66 = .ok (.ireturn, 1) := by decide +kernel
theorem dX9_witness_0 : decode cX9_witness 0 = .ok (.aload_n 0, 1) := by decide +kernel
theorem dX9_witness_1 : decode cX9_witness 1 = .ok (.getfield 47, 3) := by decide +kernel
theorem dX9_witness_4 : decode cX9_witness 4 = .ok (.ireturn, 1) := by decide +kernel
theorem dX9_isWithin_0 : decode cX9_isWithin 0 = .ok (.iload_n 0, 1) := by decide +kernel
theorem dX9_isWithin_1 : decode cX9_isWithin 1 = .ok (.iload_n 1, 1) := by decide +kernel
theorem dX9_isWithin_2 : decode cX9_isWithin 2 = .ok (.if_icmp .lt 12, 3) := by decide +kernel
theorem dX9_isWithin_5 : decode cX9_isWithin 5 = .ok (.iload_n 0, 1) := by decide +kernel
theorem dX9_isWithin_6 : decode cX9_isWithin 6 = .ok (.iload_n 2, 1) := by decide +kernel
theorem dX9_isWithin_7 : decode cX9_isWithin 7 = .ok (.if_icmp .gt 7, 3) := by decide +kernel
theorem dX9_isWithin_10 : decode cX9_isWithin 10 = .ok (.iconst 1, 1) := by decide +kernel
theorem dX9_isWithin_11 : decode cX9_isWithin 11 = .ok (.goto 4, 3) := by decide +kernel
theorem dX9_isWithin_14 : decode cX9_isWithin 14 = .ok (.iconst 0, 1) := by decide +kernel
theorem dX9_isWithin_15 : decode cX9_isWithin 15 = .ok (.ireturn, 1) := by decide +kernel
theorem dX9_isSheetNumber_0 : decode cX9_isSheetNumber 0 = .ok (.iload_n 0, 1) := by decide +kernel
theorem dX9_isSheetNumber_1 : decode cX9_isSheetNumber 1 = .ok (.iconst 0, 1) := by decide +kernel
theorem dX9_isSheetNumber_2 : decode cX9_isSheetNumber 2 = .ok (.iconst 3, 1) := by decide +kernel
theorem dX9_isSheetNumber_3 : decode cX9_isSheetNumber 3 = .ok (.invokestatic 52, 3) := by decide +kernel
theorem dX9_isSheetNumber_6 : decode cX9_isSheetNumber 6 = .ok (.ireturn, 1) := by decide +kernel
theorem dX9_isLane_0 : decode cX9_isLane 0 = .ok (.iload_n 0, 1) := by decide +kernel
theorem dX9_isLane_1 : decode cX9_isLane 1 = .ok (.iconst 0, 1) := by decide +kernel
theorem dX9_isLane_2 : decode cX9_isLane 2 = .ok (.iconst 2, 1) := by decide +kernel
theorem dX9_isLane_3 : decode cX9_isLane 3 = .ok (.invokestatic 52, 3) := by decide +kernel
theorem dX9_isLane_6 : decode cX9_isLane 6 = .ok (.ireturn, 1) := by decide +kernel
theorem dX9_newLine_0 : decode cX9_newLine 0 = .ok (.iload_n 0, 1) := by decide +kernel
theorem dX9_newLine_1 : decode cX9_newLine 1 = .ok (.iconst 2, 1) := by decide +kernel
theorem dX9_newLine_2 : decode cX9_newLine 2 = .ok (.if_icmp .ne 12, 3) := by decide +kernel
theorem dX9_newLine_5 : decode cX9_newLine 5 = .ok (.new 91, 3) := by decide +kernel
theorem dX9_newLine_8 : decode cX9_newLine 8 = .ok (.dup, 1) := by decide +kernel
theorem dX9_newLine_9 : decode cX9_newLine 9 = .ok (.iload_n 1, 1) := by decide +kernel
theorem dX9_newLine_10 : decode cX9_newLine 10 = .ok (.invokespecial 220, 3) := by decide +kernel
theorem dX9_newLine_13 : decode cX9_newLine 13 = .ok (.areturn, 1) := by decide +kernel
theorem dX9_newLine_14 : decode cX9_newLine 14 = .ok (.iload_n 0, 1) := by decide +kernel
theorem dX9_newLine_15 : decode cX9_newLine 15 = .ok (.iconst 1, 1) := by decide +kernel
theorem dX9_newLine_16 : decode cX9_newLine 16 = .ok (.if_icmp .ne 14, 3) := by decide +kernel
theorem dX9_newLine_19 : decode cX9_newLine 19 = .ok (.new 63, 3) := by decide +kernel
theorem dX9_newLine_22 : decode cX9_newLine 22 = .ok (.dup, 1) := by decide +kernel
theorem dX9_newLine_23 : decode cX9_newLine 23 = .ok (.iload_n 1, 1) := by decide +kernel
theorem dX9_newLine_24 : decode cX9_newLine 24 = .ok (.invokespecial 223, 3) := by decide +kernel
theorem dX9_newLine_27 : decode cX9_newLine 27 = .ok (.goto 11, 3) := by decide +kernel
theorem dX9_newLine_30 : decode cX9_newLine 30 = .ok (.new 81, 3) := by decide +kernel
theorem dX9_newLine_33 : decode cX9_newLine 33 = .ok (.dup, 1) := by decide +kernel
theorem dX9_newLine_34 : decode cX9_newLine 34 = .ok (.iload_n 1, 1) := by decide +kernel
theorem dX9_newLine_35 : decode cX9_newLine 35 = .ok (.invokespecial 224, 3) := by decide +kernel
theorem dX9_newLine_38 : decode cX9_newLine 38 = .ok (.areturn, 1) := by decide +kernel
theorem dX9_rowAt_0 : decode cX9_rowAt 0 = .ok (.iload_n 1, 1) := by decide +kernel
theorem dX9_rowAt_1 : decode cX9_rowAt 1 = .ok (.iconst 0, 1) := by decide +kernel
theorem dX9_rowAt_2 : decode cX9_rowAt 2 = .ok (.iconst 3, 1) := by decide +kernel
theorem dX9_rowAt_3 : decode cX9_rowAt 3 = .ok (.invokestatic 52, 3) := by decide +kernel
theorem dX9_rowAt_6 : decode cX9_rowAt 6 = .ok (.ifCond .eq 12, 3) := by decide +kernel
theorem dX9_rowAt_9 : decode cX9_rowAt 9 = .ok (.aload_n 0, 1) := by decide +kernel
theorem dX9_rowAt_10 : decode cX9_rowAt 10 = .ok (.getfield 18, 3) := by decide +kernel
theorem dX9_rowAt_13 : decode cX9_rowAt 13 = .ok (.iload_n 1, 1) := by decide +kernel
theorem dX9_rowAt_14 : decode cX9_rowAt 14 = .ok (.aaload, 1) := by decide +kernel
theorem dX9_rowAt_15 : decode cX9_rowAt 15 = .ok (.goto 4, 3) := by decide +kernel
theorem dX9_rowAt_18 : decode cX9_rowAt 18 = .ok (.aconst_null, 1) := by decide +kernel
theorem dX9_rowAt_19 : decode cX9_rowAt 19 = .ok (.areturn, 1) := by decide +kernel
theorem dX9_areLetters_0 : decode cX9_areLetters 0 = .ok (.iload 4, 2) := by decide +kernel
theorem dX9_areLetters_2 : decode cX9_areLetters 2 = .ok (.istore 5, 2) := by decide +kernel
theorem dX9_areLetters_4 : decode cX9_areLetters 4 = .ok (.iconst 0, 1) := by decide +kernel
theorem dX9_areLetters_5 : decode cX9_areLetters 5 = .ok (.istore 6, 2) := by decide +kernel
theorem dX9_areLetters_7 : decode cX9_areLetters 7 = .ok (.iload 6, 2) := by decide +kernel
theorem dX9_areLetters_9 : decode cX9_areLetters 9 = .ok (.iload_n 3, 1) := by decide +kernel
theorem dX9_areLetters_10 : decode cX9_areLetters 10 = .ok (.if_icmp .ge 63, 3) := by decide +kernel
theorem dX9_areLetters_13 : decode cX9_areLetters 13 = .ok (.aload_n 1, 1) := by decide +kernel
theorem dX9_areLetters_14 : decode cX9_areLetters 14 = .ok (.getfield 125, 3) := by decide +kernel
theorem dX9_areLetters_17 : decode cX9_areLetters 17 = .ok (.iload_n 2, 1) := by decide +kernel
theorem dX9_areLetters_18 : decode cX9_areLetters 18 = .ok (.iconst 2, 1) := by decide +kernel
theorem dX9_areLetters_19 : decode cX9_areLetters 19 = .ok (.iload 6, 2) := by decide +kernel
theorem dX9_areLetters_21 : decode cX9_areLetters 21 = .ok (.imul, 1) := by decide +kernel
theorem dX9_areLetters_22 : decode cX9_areLetters 22 = .ok (.iadd, 1) := by decide +kernel
theorem dX9_areLetters_23 : decode cX9_areLetters 23 = .ok (.iaload, 1) := by decide +kernel
theorem dX9_areLetters_24 : decode cX9_areLetters 24 = .ok (.istore 7, 2) := by decide +kernel
theorem dX9_areLetters_26 : decode cX9_areLetters 26 = .ok (.iload 7, 2) := by decide +kernel
theorem dX9_areLetters_28 : decode cX9_areLetters 28 = .ok (.iload 5, 2) := by decide +kernel
theorem dX9_areLetters_30 : decode cX9_areLetters 30 = .ok (.bipush 39, 2) := by decide +kernel
theorem dX9_areLetters_32 : decode cX9_areLetters 32 = .ok (.invokestatic 52, 3) := by decide +kernel
theorem dX9_areLetters_35 : decode cX9_areLetters 35 = .ok (.ifCond .eq 26, 3) := by decide +kernel
theorem dX9_areLetters_38 : decode cX9_areLetters 38 = .ok (.aload_n 0, 1) := by decide +kernel
theorem dX9_areLetters_39 : decode cX9_areLetters 39 = .ok (.getfield 10, 3) := by decide +kernel
theorem dX9_areLetters_42 : decode cX9_areLetters 42 = .ok (.aload_n 1, 1) := by decide +kernel
theorem dX9_areLetters_43 : decode cX9_areLetters 43 = .ok (.getfield 125, 3) := by decide +kernel
theorem dX9_areLetters_46 : decode cX9_areLetters 46 = .ok (.iload_n 2, 1) := by decide +kernel
theorem dX9_areLetters_47 : decode cX9_areLetters 47 = .ok (.iconst 2, 1) := by decide +kernel
theorem dX9_areLetters_48 : decode cX9_areLetters 48 = .ok (.iload 6, 2) := by decide +kernel
theorem dX9_areLetters_50 : decode cX9_areLetters 50 = .ok (.imul, 1) := by decide +kernel
theorem dX9_areLetters_51 : decode cX9_areLetters 51 = .ok (.iadd, 1) := by decide +kernel
theorem dX9_areLetters_52 : decode cX9_areLetters 52 = .ok (.iconst 1, 1) := by decide +kernel
theorem dX9_areLetters_53 : decode cX9_areLetters 53 = .ok (.iadd, 1) := by decide +kernel
theorem dX9_areLetters_54 : decode cX9_areLetters 54 = .ok (.iaload, 1) := by decide +kernel
theorem dX9_areLetters_55 : decode cX9_areLetters 55 = .ok (.invokevirtual 76, 3) := by decide +kernel
theorem dX9_areLetters_58 : decode cX9_areLetters 58 = .ok (.ifnonnull 5, 3) := by decide +kernel
theorem dX9_areLetters_61 : decode cX9_areLetters 61 = .ok (.iconst 0, 1) := by decide +kernel
theorem dX9_areLetters_62 : decode cX9_areLetters 62 = .ok (.ireturn, 1) := by decide +kernel
theorem dX9_areLetters_63 : decode cX9_areLetters 63 = .ok (.iload 7, 2) := by decide +kernel
theorem dX9_areLetters_65 : decode cX9_areLetters 65 = .ok (.istore 5, 2) := by decide +kernel
theorem dX9_areLetters_67 : decode cX9_areLetters 67 = .ok (.iinc 6 1, 3) := by decide +kernel
theorem dX9_areLetters_70 : decode cX9_areLetters 70 = .ok (.goto (-63), 3) := by decide +kernel
theorem dX9_areLetters_73 : decode cX9_areLetters 73 = .ok (.iconst 1, 1) := by decide +kernel
theorem dX9_areLetters_74 : decode cX9_areLetters 74 = .ok (.ireturn, 1) := by decide +kernel
theorem dX10_in_0 : decode cX10_in 0 = .ok (.iload_n 0, 1) := by decide +kernel
theorem dX10_in_1 : decode cX10_in 1 = .ok (.iload_n 1, 1) := by decide +kernel
theorem dX10_in_2 : decode cX10_in 2 = .ok (.if_icmp .lt 12, 3) := by decide +kernel
theorem dX10_in_5 : decode cX10_in 5 = .ok (.iload_n 0, 1) := by decide +kernel
theorem dX10_in_6 : decode cX10_in 6 = .ok (.iload_n 2, 1) := by decide +kernel
theorem dX10_in_7 : decode cX10_in 7 = .ok (.if_icmp .gt 7, 3) := by decide +kernel
theorem dX10_in_10 : decode cX10_in 10 = .ok (.iconst 1, 1) := by decide +kernel
theorem dX10_in_11 : decode cX10_in 11 = .ok (.goto 4, 3) := by decide +kernel
theorem dX10_in_14 : decode cX10_in 14 = .ok (.iconst 0, 1) := by decide +kernel
theorem dX10_in_15 : decode cX10_in 15 = .ok (.ireturn, 1) := by decide +kernel
theorem dX10_init_0 : decode cX10_init 0 = .ok (.aload_n 0, 1) := by decide +kernel
theorem dX10_init_1 : decode cX10_init 1 = .ok (.invokespecial 1, 3) := by decide +kernel
theorem dX10_init_4 : decode cX10_init 4 = .ok (.aload_n 0, 1) := by decide +kernel
theorem dX10_init_5 : decode cX10_init 5 = .ok (.bipush 8, 2) := by decide +kernel
theorem dX10_init_7 : decode cX10_init 7 = .ok (.putfield 7, 3) := by decide +kernel
theorem dX10_init_10 : decode cX10_init 10 = .ok (.aload_n 0, 1) := by decide +kernel
theorem dX10_init_11 : decode cX10_init 11 = .ok (.iconst 1, 1) := by decide +kernel
theorem dX10_init_12 : decode cX10_init 12 = .ok (.putfield 13, 3) := by decide +kernel
theorem dX10_init_15 : decode cX10_init 15 = .ok (.aload_n 0, 1) := by decide +kernel
theorem dX10_init_16 : decode cX10_init 16 = .ok (.iconst 4, 1) := by decide +kernel
theorem dX10_init_17 : decode cX10_init 17 = .ok (.newarray .int, 2) := by decide +kernel
theorem dX10_init_19 : decode cX10_init 19 = .ok (.putfield 16, 3) := by decide +kernel
theorem dX10_init_22 : decode cX10_init 22 = .ok (.aload_n 0, 1) := by decide +kernel
theorem dX10_init_23 : decode cX10_init 23 = .ok (.iconst 4, 1) := by decide +kernel
theorem dX10_init_24 : decode cX10_init 24 = .ok (.newarray .int, 2) := by decide +kernel
theorem dX10_init_26 : decode cX10_init 26 = .ok (.putfield 20, 3) := by decide +kernel
theorem dX10_init_29 : decode cX10_init 29 = .ok (.aload_n 0, 1) := by decide +kernel
theorem dX10_init_30 : decode cX10_init 30 = .ok (.iconst 4, 1) := by decide +kernel
theorem dX10_init_31 : decode cX10_init 31 = .ok (.newarray .int, 2) := by decide +kernel
theorem dX10_init_33 : decode cX10_init 33 = .ok (.putfield 23, 3) := by decide +kernel
theorem dX10_init_36 : decode cX10_init 36 = .ok (.aload_n 0, 1) := by decide +kernel
theorem dX10_init_37 : decode cX10_init 37 = .ok (.iconst 4, 1) := by decide +kernel
theorem dX10_init_38 : decode cX10_init 38 = .ok (.newarray .int, 2) := by decide +kernel
theorem dX10_init_40 : decode cX10_init 40 = .ok (.putfield 26, 3) := by decide +kernel
theorem dX10_init_43 : decode cX10_init 43 = .ok (.aload_n 0, 1) := by decide +kernel
theorem dX10_init_44 : decode cX10_init 44 = .ok (.iconst 4, 1) := by decide +kernel
theorem dX10_init_45 : decode cX10_init 45 = .ok (.newarray .int, 2) := by decide +kernel
theorem dX10_init_47 : decode cX10_init 47 = .ok (.putfield 29, 3) := by decide +kernel
theorem dX10_init_50 : decode cX10_init 50 = .ok (.aload_n 0, 1) := by decide +kernel
theorem dX10_init_51 : decode cX10_init 51 = .ok (.iconst 4, 1) := by decide +kernel
theorem dX10_init_52 : decode cX10_init 52 = .ok (.newarray .int, 2) := by decide +kernel
theorem dX10_init_54 : decode cX10_init 54 = .ok (.putfield 32, 3) := by decide +kernel
theorem dX10_init_57 : decode cX10_init 57 = .ok (.aload_n 0, 1) := by decide +kernel
theorem dX10_init_58 : decode cX10_init 58 = .ok (.iconst 4, 1) := by decide +kernel
theorem dX10_init_59 : decode cX10_init 59 = .ok (.newarray .int, 2) := by decide +kernel
theorem dX10_init_61 : decode cX10_init 61 = .ok (.putfield 35, 3) := by decide +kernel
theorem dX10_init_64 : decode cX10_init 64 = .ok (.aload_n 0, 1) := by decide +kernel
theorem dX10_init_65 : decode cX10_init 65 = .ok (.bipush 16, 2) := by decide +kernel
theorem dX10_init_67 : decode cX10_init 67 = .ok (.putfield 38, 3) := by decide +kernel
theorem dX10_init_70 : decode cX10_init 70 = .ok (.aload_n 0, 1) := by decide +kernel
theorem dX10_init_71 : decode cX10_init 71 = .ok (.iconst 4, 1) := by decide +kernel
theorem dX10_init_72 : decode cX10_init 72 = .ok (.newarray .int, 2) := by decide +kernel
end
section
theorem dX10_init_74 : decode cX10_init 74 = .ok (.putfield 41, 3) := by decide +kernel
theorem dX10_init_77 : decode cX10_init 77 = .ok (.aload_n 0, 1) := by decide +kernel
theorem dX10_init_78 : decode cX10_init 78 = .ok (.iconst 4, 1) := by decide +kernel
theorem dX10_init_79 : decode cX10_init 79 = .ok (.newarray .int, 2) := by decide +kernel
theorem dX10_init_81 : decode cX10_init 81 = .ok (.putfield 44, 3) := by decide +kernel
theorem dX10_init_84 : decode cX10_init 84 = .ok (.aload_n 0, 1) := by decide +kernel
theorem dX10_init_85 : decode cX10_init 85 = .ok (.sipush 640, 3) := by decide +kernel
theorem dX10_init_88 : decode cX10_init 88 = .ok (.newarray .int, 2) := by decide +kernel
theorem dX10_init_90 : decode cX10_init 90 = .ok (.putfield 47, 3) := by decide +kernel
theorem dX10_init_93 : decode cX10_init 93 = .ok (.aload_n 0, 1) := by decide +kernel
theorem dX10_init_94 : decode cX10_init 94 = .ok (.sipush 160, 3) := by decide +kernel
theorem dX10_init_97 : decode cX10_init 97 = .ok (.newarray .int, 2) := by decide +kernel
theorem dX10_init_99 : decode cX10_init 99 = .ok (.putfield 50, 3) := by decide +kernel
theorem dX10_init_102 : decode cX10_init 102 = .ok (.aload_n 0, 1) := by decide +kernel
theorem dX10_init_103 : decode cX10_init 103 = .ok (.iconst 4, 1) := by decide +kernel
theorem dX10_init_104 : decode cX10_init 104 = .ok (.newarray .int, 2) := by decide +kernel
theorem dX10_init_106 : decode cX10_init 106 = .ok (.putfield 53, 3) := by decide +kernel
theorem dX10_init_109 : decode cX10_init 109 = .ok (.aload_n 0, 1) := by decide +kernel
theorem dX10_init_110 : decode cX10_init 110 = .ok (.sipush 320, 3) := by decide +kernel
theorem dX10_init_113 : decode cX10_init 113 = .ok (.newarray .int, 2) := by decide +kernel
theorem dX10_init_115 : decode cX10_init 115 = .ok (.putfield 56, 3) := by decide +kernel
theorem dX10_init_118 : decode cX10_init 118 = .ok (.aload_n 0, 1) := by decide +kernel
theorem dX10_init_119 : decode cX10_init 119 = .ok (.sipush 320, 3) := by decide +kernel
theorem dX10_init_122 : decode cX10_init 122 = .ok (.newarray .int, 2) := by decide +kernel
theorem dX10_init_124 : decode cX10_init 124 = .ok (.putfield 59, 3) := by decide +kernel
theorem dX10_init_127 : decode cX10_init 127 = .ok (.aload_n 0, 1) := by decide +kernel
theorem dX10_init_128 : decode cX10_init 128 = .ok (.iconst 4, 1) := by decide +kernel
theorem dX10_init_129 : decode cX10_init 129 = .ok (.newarray .boolean, 2) := by decide +kernel
theorem dX10_init_131 : decode cX10_init 131 = .ok (.putfield 62, 3) := by decide +kernel
theorem dX10_init_134 : decode cX10_init 134 = .ok (.aload_n 0, 1) := by decide +kernel
theorem dX10_init_135 : decode cX10_init 135 = .ok (.sipush 320, 3) := by decide +kernel
theorem dX10_init_138 : decode cX10_init 138 = .ok (.newarray .int, 2) := by decide +kernel
theorem dX10_init_140 : decode cX10_init 140 = .ok (.putfield 66, 3) := by decide +kernel
theorem dX10_init_143 : decode cX10_init 143 = .ok (.aload_n 0, 1) := by decide +kernel
theorem dX10_init_144 : decode cX10_init 144 = .ok (.iconst 4, 1) := by decide +kernel
theorem dX10_init_145 : decode cX10_init 145 = .ok (.newarray .int, 2) := by decide +kernel
theorem dX10_init_147 : decode cX10_init 147 = .ok (.putfield 69, 3) := by decide +kernel
theorem dX10_init_150 : decode cX10_init 150 = .ok (.aload_n 0, 1) := by decide +kernel
theorem dX10_init_151 : decode cX10_init 151 = .ok (.iconst 4, 1) := by decide +kernel
theorem dX10_init_152 : decode cX10_init 152 = .ok (.newarray .int, 2) := by decide +kernel
theorem dX10_init_154 : decode cX10_init 154 = .ok (.putfield 72, 3) := by decide +kernel
theorem dX10_init_157 : decode cX10_init 157 = .ok (.aload_n 0, 1) := by decide +kernel
theorem dX10_init_158 : decode cX10_init 158 = .ok (.iconst 4, 1) := by decide +kernel
theorem dX10_init_159 : decode cX10_init 159 = .ok (.newarray .int, 2) := by decide +kernel
theorem dX10_init_161 : decode cX10_init 161 = .ok (.putfield 75, 3) := by decide +kernel
theorem dX10_init_164 : decode cX10_init 164 = .ok (.aload_n 0, 1) := by decide +kernel
theorem dX10_init_165 : decode cX10_init 165 = .ok (.iconst 4, 1) := by decide +kernel
theorem dX10_init_166 : decode cX10_init 166 = .ok (.newarray .boolean, 2) := by decide +kernel
theorem dX10_init_168 : decode cX10_init 168 = .ok (.putfield 78, 3) := by decide +kernel
theorem dX10_init_171 : decode cX10_init 171 = .ok (.aload_n 0, 1) := by decide +kernel
theorem dX10_init_172 : decode cX10_init 172 = .ok (.sipush 1600, 3) := by decide +kernel
theorem dX10_init_175 : decode cX10_init 175 = .ok (.newarray .boolean, 2) := by decide +kernel
theorem dX10_init_177 : decode cX10_init 177 = .ok (.putfield 81, 3) := by decide +kernel
theorem dX10_init_180 : decode cX10_init 180 = .ok (.aload_n 0, 1) := by decide +kernel
theorem dX10_init_181 : decode cX10_init 181 = .ok (.bipush 80, 2) := by decide +kernel
theorem dX10_init_183 : decode cX10_init 183 = .ok (.newarray .int, 2) := by decide +kernel
theorem dX10_init_185 : decode cX10_init 185 = .ok (.putfield 84, 3) := by decide +kernel
theorem dX10_init_188 : decode cX10_init 188 = .ok (.aload_n 0, 1) := by decide +kernel
theorem dX10_init_189 : decode cX10_init 189 = .ok (.bipush 80, 2) := by decide +kernel
theorem dX10_init_191 : decode cX10_init 191 = .ok (.newarray .int, 2) := by decide +kernel
theorem dX10_init_193 : decode cX10_init 193 = .ok (.putfield 87, 3) := by decide +kernel
theorem dX10_init_196 : decode cX10_init 196 = .ok (.aload_n 0, 1) := by decide +kernel
theorem dX10_init_197 : decode cX10_init 197 = .ok (.bipush 80, 2) := by decide +kernel
theorem dX10_init_199 : decode cX10_init 199 = .ok (.newarray .int, 2) := by decide +kernel
theorem dX10_init_201 : decode cX10_init 201 = .ok (.putfield 90, 3) := by decide +kernel
theorem dX10_init_204 : decode cX10_init 204 = .ok (.aload_n 0, 1) := by decide +kernel
theorem dX10_init_205 : decode cX10_init 205 = .ok (.iconst 5, 1) := by decide +kernel
theorem dX10_init_206 : decode cX10_init 206 = .ok (.newarray .int, 2) := by decide +kernel
theorem dX10_init_208 : decode cX10_init 208 = .ok (.putfield 93, 3) := by decide +kernel
theorem dX10_init_211 : decode cX10_init 211 = .ok (.aload_n 0, 1) := by decide +kernel
theorem dX10_init_212 : decode cX10_init 212 = .ok (.sipush 1600, 3) := by decide +kernel
theorem dX10_init_215 : decode cX10_init 215 = .ok (.newarray .int, 2) := by decide +kernel
theorem dX10_init_217 : decode cX10_init 217 = .ok (.putfield 96, 3) := by decide +kernel
theorem dX10_init_220 : decode cX10_init 220 = .ok (.aload_n 0, 1) := by decide +kernel
theorem dX10_init_221 : decode cX10_init 221 = .ok (.bipush 80, 2) := by decide +kernel
theorem dX10_init_223 : decode cX10_init 223 = .ok (.newarray .int, 2) := by decide +kernel
theorem dX10_init_225 : decode cX10_init 225 = .ok (.putfield 99, 3) := by decide +kernel
theorem dX10_init_228 : decode cX10_init 228 = .ok (.aload_n 0, 1) := by decide +kernel
theorem dX10_init_229 : decode cX10_init 229 = .ok (.bipush 80, 2) := by decide +kernel
theorem dX10_init_231 : decode cX10_init 231 = .ok (.newarray .int, 2) := by decide +kernel
theorem dX10_init_233 : decode cX10_init 233 = .ok (.putfield 102, 3) := by decide +kernel
theorem dX10_init_236 : decode cX10_init 236 = .ok (.aload_n 0, 1) := by decide +kernel
theorem dX10_init_237 : decode cX10_init 237 = .ok (.bipush 80, 2) := by decide +kernel
theorem dX10_init_239 : decode cX10_init 239 = .ok (.newarray .int, 2) := by decide +kernel
theorem dX10_init_241 : decode cX10_init 241 = .ok (.putfield 105, 3) := by decide +kernel
theorem dX10_init_244 : decode cX10_init 244 = .ok (.aload_n 0, 1) := by decide +kernel
theorem dX10_init_245 : decode cX10_init 245 = .ok (.bipush 80, 2) := by decide +kernel
theorem dX10_init_247 : decode cX10_init 247 = .ok (.newarray .int, 2) := by decide +kernel
theorem dX10_init_249 : decode cX10_init 249 = .ok (.putfield 108, 3) := by decide +kernel
theorem dX10_init_252 : decode cX10_init 252 = .ok (.aload_n 0, 1) := by decide +kernel
theorem dX10_init_253 : decode cX10_init 253 = .ok (.iconst 5, 1) := by decide +kernel
theorem dX10_init_254 : decode cX10_init 254 = .ok (.newarray .int, 2) := by decide +kernel
theorem dX10_init_256 : decode cX10_init 256 = .ok (.putfield 111, 3) := by decide +kernel
theorem dX10_init_259 : decode cX10_init 259 = .ok (.aload_n 0, 1) := by decide +kernel
theorem dX10_init_260 : decode cX10_init 260 = .ok (.sipush 28561, 3) := by decide +kernel
theorem dX10_init_263 : decode cX10_init 263 = .ok (.newarray .int, 2) := by decide +kernel
theorem dX10_init_265 : decode cX10_init 265 = .ok (.putfield 114, 3) := by decide +kernel
theorem dX10_init_268 : decode cX10_init 268 = .ok (.aload_n 0, 1) := by decide +kernel
theorem dX10_init_269 : decode cX10_init 269 = .ok (.sipush 28561, 3) := by decide +kernel
theorem dX10_init_272 : decode cX10_init 272 = .ok (.newarray .int, 2) := by decide +kernel
theorem dX10_init_274 : decode cX10_init 274 = .ok (.putfield 117, 3) := by decide +kernel
theorem dX10_init_277 : decode cX10_init 277 = .ok (.aload_n 0, 1) := by decide +kernel
theorem dX10_init_278 : decode cX10_init 278 = .ok (.iconst (-1), 1) := by decide +kernel
theorem dX10_init_279 : decode cX10_init 279 = .ok (.putfield 120, 3) := by decide +kernel
theorem dX10_init_282 : decode cX10_init 282 = .ok (.aload_n 0, 1) := by decide +kernel
theorem dX10_init_283 : decode cX10_init 283 = .ok (.getfield 20, 3) := by decide +kernel
theorem dX10_init_286 : decode cX10_init 286 = .ok (.iconst 0, 1) := by decide +kernel
theorem dX10_init_287 : decode cX10_init 287 = .ok (.iconst 4, 1) := by decide +kernel
theorem dX10_init_288 : decode cX10_init 288 = .ok (.iastore, 1) := by decide +kernel
theorem dX10_init_289 : decode cX10_init 289 = .ok (.aload_n 0, 1) := by decide +kernel
theorem dX10_init_290 : decode cX10_init 290 = .ok (.getfield 23, 3) := by decide +kernel
theorem dX10_init_293 : decode cX10_init 293 = .ok (.iconst 0, 1) := by decide +kernel
theorem dX10_init_294 : decode cX10_init 294 = .ok (.iconst 1, 1) := by decide +kernel
theorem dX10_init_295 : decode cX10_init 295 = .ok (.iastore, 1) := by decide +kernel
theorem dX10_init_296 : decode cX10_init 296 = .ok (.iconst 0, 1) := by decide +kernel
theorem dX10_init_297 : decode cX10_init 297 = .ok (.istore_n 1, 1) := by decide +kernel
theorem dX10_init_298 : decode cX10_init 298 = .ok (.iload_n 1, 1) := by decide +kernel
theorem dX10_init_299 : decode cX10_init 299 = .ok (.iconst 4, 1) := by decide +kernel
theorem dX10_init_300 : decode cX10_init 300 = .ok (.if_icmp .ge 16, 3) := by decide +kernel
theorem dX10_init_303 : decode cX10_init 303 = .ok (.aload_n 0, 1) := by decide +kernel
theorem dX10_init_304 : decode cX10_init 304 = .ok (.getfield 41, 3) := by decide +kernel
theorem dX10_init_307 : decode cX10_init 307 = .ok (.iload_n 1, 1) := by decide +kernel
theorem dX10_init_308 : decode cX10_init 308 = .ok (.iconst (-1), 1) := by decide +kernel
theorem dX10_init_309 : decode cX10_init 309 = .ok (.iastore, 1) := by decide +kernel
theorem dX10_init_310 : decode cX10_init 310 = .ok (.iinc 1 1, 3) := by decide +kernel
theorem dX10_init_313 : decode cX10_init 313 = .ok (.goto (-15), 3) := by decide +kernel
theorem dX10_init_316 : decode cX10_init 316 = .ok (.return_, 1) := by decide +kernel
theorem dX10_isLine_0 : decode cX10_isLine 0 = .ok (.iload_n 1, 1) := by decide +kernel
theorem dX10_isLine_1 : decode cX10_isLine 1 = .ok (.iconst 0, 1) := by decide +kernel
theorem dX10_isLine_2 : decode cX10_isLine 2 = .ok (.aload_n 0, 1) := by decide +kernel
theorem dX10_isLine_3 : decode cX10_isLine 3 = .ok (.getfield 13, 3) := by decide +kernel
theorem dX10_isLine_6 : decode cX10_isLine 6 = .ok (.iconst 1, 1) := by decide +kernel
theorem dX10_isLine_7 : decode cX10_isLine 7 = .ok (.isub, 1) := by decide +kernel
theorem dX10_isLine_8 : decode cX10_isLine 8 = .ok (.invokestatic 123, 3) := by decide +kernel
theorem dX10_isLine_11 : decode cX10_isLine 11 = .ok (.ireturn, 1) := by decide +kernel
theorem dX10_allParts_0 : decode cX10_allParts 0 = .ok (.iconst 0, 1) := by decide +kernel
theorem dX10_allParts_1 : decode cX10_allParts 1 = .ok (.istore_n 1, 1) := by decide +kernel
theorem dX10_allParts_2 : decode cX10_allParts 2 = .ok (.iconst 0, 1) := by decide +kernel
theorem dX10_allParts_3 : decode cX10_allParts 3 = .ok (.istore_n 2, 1) := by decide +kernel
theorem dX10_allParts_4 : decode cX10_allParts 4 = .ok (.iload_n 2, 1) := by decide +kernel
theorem dX10_allParts_5 : decode cX10_allParts 5 = .ok (.aload_n 0, 1) := by decide +kernel
theorem dX10_allParts_6 : decode cX10_allParts 6 = .ok (.getfield 13, 3) := by decide +kernel
theorem dX10_allParts_9 : decode cX10_allParts 9 = .ok (.if_icmp .ge 31, 3) := by decide +kernel
theorem dX10_allParts_12 : decode cX10_allParts 12 = .ok (.iload_n 1, 1) := by decide +kernel
theorem dX10_allParts_13 : decode cX10_allParts 13 = .ok (.aload_n 0, 1) := by decide +kernel
theorem dX10_allParts_14 : decode cX10_allParts 14 = .ok (.getfield 16, 3) := by decide +kernel
theorem dX10_allParts_17 : decode cX10_allParts 17 = .ok (.iload_n 2, 1) := by decide +kernel
theorem dX10_allParts_18 : decode cX10_allParts 18 = .ok (.iaload, 1) := by decide +kernel
theorem dX10_allParts_19 : decode cX10_allParts 19 = .ok (.ifCond .le 12, 3) := by decide +kernel
theorem dX10_allParts_22 : decode cX10_allParts 22 = .ok (.aload_n 0, 1) := by decide +kernel
theorem dX10_allParts_23 : decode cX10_allParts 23 = .ok (.getfield 26, 3) := by decide +kernel
theorem dX10_allParts_26 : decode cX10_allParts 26 = .ok (.iload_n 2, 1) := by decide +kernel
theorem dX10_allParts_27 : decode cX10_allParts 27 = .ok (.iaload, 1) := by decide +kernel
theorem dX10_allParts_28 : decode cX10_allParts 28 = .ok (.goto 4, 3) := by decide +kernel
theorem dX10_allParts_31 : decode cX10_allParts 31 = .ok (.iconst 0, 1) := by decide +kernel
theorem dX10_allParts_32 : decode cX10_allParts 32 = .ok (.iadd, 1) := by decide +kernel
theorem dX10_allParts_33 : decode cX10_allParts 33 = .ok (.istore_n 1, 1) := by decide +kernel
theorem dX10_allParts_34 : decode cX10_allParts 34 = .ok (.iinc 2 1, 3) := by decide +kernel
theorem dX10_allParts_37 : decode cX10_allParts 37 = .ok (.goto (-33), 3) := by decide +kernel
theorem dX10_allParts_40 : decode cX10_allParts 40 = .ok (.iload_n 1, 1) := by decide +kernel
theorem dX10_allParts_41 : decode cX10_allParts 41 = .ok (.ireturn, 1) := by decide +kernel
theorem dX10_room_0 : decode cX10_room 0 = .ok (.iload_n 1, 1) := by decide +kernel
theorem dX10_room_1 : decode cX10_room 1 = .ok (.iconst 1, 1) := by decide +kernel
theorem dX10_room_2 : decode cX10_room 2 = .ok (.bipush 12, 2) := by decide +kernel
theorem dX10_room_4 : decode cX10_room 4 = .ok (.invokestatic 123, 3) := by decide +kernel
theorem dX10_room_7 : decode cX10_room 7 = .ok (.ifCond .eq 11, 3) := by decide +kernel
theorem dX10_room_10 : decode cX10_room 10 = .ok (.aload_n 0, 1) := by decide +kernel
theorem dX10_room_11 : decode cX10_room 11 = .ok (.invokevirtual 127, 3) := by decide +kernel
theorem dX10_room_14 : decode cX10_room 14 = .ok (.iload_n 1, 1) := by decide +kernel
theorem dX10_room_15 : decode cX10_room 15 = .ok (.if_icmp .le 5, 3) := by decide +kernel
theorem dX10_room_18 : decode cX10_room 18 = .ok (.iconst (-1), 1) := by decide +kernel
theorem dX10_room_19 : decode cX10_room 19 = .ok (.ireturn, 1) := by decide +kernel
theorem dX10_room_20 : decode cX10_room 20 = .ok (.aload_n 0, 1) := by decide +kernel
theorem dX10_room_21 : decode cX10_room 21 = .ok (.getfield 7, 3) := by decide +kernel
theorem dX10_room_24 : decode cX10_room 24 = .ok (.istore_n 2, 1) := by decide +kernel
theorem dX10_room_25 : decode cX10_room 25 = .ok (.aload_n 0, 1) := by decide +kernel
theorem dX10_room_26 : decode cX10_room 26 = .ok (.iload_n 1, 1) := by decide +kernel
theorem dX10_room_27 : decode cX10_room 27 = .ok (.putfield 7, 3) := by decide +kernel
theorem dX10_room_30 : decode cX10_room 30 = .ok (.iload_n 2, 1) := by decide +kernel
theorem dX10_room_31 : decode cX10_room 31 = .ok (.ireturn, 1) := by decide +kernel
theorem dX10_line_0 : decode cX10_line 0 = .ok (.iload_n 1, 1) := by decide +kernel
theorem dX10_line_1 : decode cX10_line 1 = .ok (.iconst 0, 1) := by decide +kernel
theorem dX10_line_2 : decode cX10_line 2 = .ok (.iconst 2, 1) := by decide +kernel
theorem dX10_line_3 : decode cX10_line 3 = .ok (.invokestatic 123, 3) := by decide +kernel
theorem dX10_line_6 : decode cX10_line 6 = .ok (.ifCond .eq 13, 3) := by decide +kernel
theorem dX10_line_9 : decode cX10_line 9 = .ok (.iload_n 2, 1) := by decide +kernel
theorem dX10_line_10 : decode cX10_line 10 = .ok (.iconst 0, 1) := by decide +kernel
theorem dX10_line_11 : decode cX10_line 11 = .ok (.bipush 12, 2) := by decide +kernel
theorem dX10_line_13 : decode cX10_line 13 = .ok (.invokestatic 123, 3) := by decide +kernel
theorem dX10_line_16 : decode cX10_line 16 = .ok (.ifCond .ne 5, 3) := by decide +kernel
theorem dX10_line_19 : decode cX10_line 19 = .ok (.iconst (-1), 1) := by decide +kernel
theorem dX10_line_20 : decode cX10_line 20 = .ok (.ireturn, 1) := by decide +kernel
theorem dX10_line_21 : decode cX10_line 21 = .ok (.iload_n 1, 1) := by decide +kernel
theorem dX10_line_22 : decode cX10_line 22 = .ok (.ifCond .le 19, 3) := by decide +kernel
theorem dX10_line_25 : decode cX10_line 25 = .ok (.aload_n 0, 1) := by decide +kernel
theorem dX10_line_26 : decode cX10_line 26 = .ok (.invokevirtual 127, 3) := by decide +kernel
theorem dX10_line_29 : decode cX10_line 29 = .ok (.iconst 1, 1) := by decide +kernel
theorem dX10_line_30 : decode cX10_line 30 = .ok (.iadd, 1) := by decide +kernel
theorem dX10_line_31 : decode cX10_line 31 = .ok (.aload_n 0, 1) := by decide +kernel
theorem dX10_line_32 : decode cX10_line 32 = .ok (.getfield 7, 3) := by decide +kernel
theorem dX10_line_35 : decode cX10_line 35 = .ok (.if_icmp .le 6, 3) := by decide +kernel
theorem dX10_line_38 : decode cX10_line 38 = .ok (.bipush (-2), 2) := by decide +kernel
theorem dX10_line_40 : decode cX10_line 40 = .ok (.ireturn, 1) := by decide +kernel
theorem dX10_line_41 : decode cX10_line 41 = .ok (.aload_n 0, 1) := by decide +kernel
theorem dX10_line_42 : decode cX10_line 42 = .ok (.getfield 13, 3) := by decide +kernel
theorem dX10_line_45 : decode cX10_line 45 = .ok (.iconst 4, 1) := by decide +kernel
theorem dX10_line_46 : decode cX10_line 46 = .ok (.if_icmp .ne 6, 3) := by decide +kernel
theorem dX10_line_49 : decode cX10_line 49 = .ok (.bipush (-3), 2) := by decide +kernel
theorem dX10_line_51 : decode cX10_line 51 = .ok (.ireturn, 1) := by decide +kernel
theorem dX10_line_52 : decode cX10_line 52 = .ok (.aload_n 0, 1) := by decide +kernel
theorem dX10_line_53 : decode cX10_line 53 = .ok (.getfield 16, 3) := by decide +kernel
theorem dX10_line_56 : decode cX10_line 56 = .ok (.aload_n 0, 1) := by decide +kernel
theorem dX10_line_57 : decode cX10_line 57 = .ok (.getfield 13, 3) := by decide +kernel
theorem dX10_line_60 : decode cX10_line 60 = .ok (.iload_n 1, 1) := by decide +kernel
theorem dX10_line_61 : decode cX10_line 61 = .ok (.iastore, 1) := by decide +kernel
theorem dX10_line_62 : decode cX10_line 62 = .ok (.aload_n 0, 1) := by decide +kernel
theorem dX10_line_63 : decode cX10_line 63 = .ok (.getfield 20, 3) := by decide +kernel
theorem dX10_line_66 : decode cX10_line 66 = .ok (.aload_n 0, 1) := by decide +kernel
theorem dX10_line_67 : decode cX10_line 67 = .ok (.getfield 13, 3) := by decide +kernel
theorem dX10_line_70 : decode cX10_line 70 = .ok (.iload_n 2, 1) := by decide +kernel
theorem dX10_line_71 : decode cX10_line 71 = .ok (.iastore, 1) := by decide +kernel
theorem dX10_line_72 : decode cX10_line 72 = .ok (.aload_n 0, 1) := by decide +kernel
theorem dX10_line_73 : decode cX10_line 73 = .ok (.getfield 23, 3) := by decide +kernel
theorem dX10_line_76 : decode cX10_line 76 = .ok (.aload_n 0, 1) := by decide +kernel
theorem dX10_line_77 : decode cX10_line 77 = .ok (.getfield 13, 3) := by decide +kernel
theorem dX10_line_80 : decode cX10_line 80 = .ok (.iconst 1, 1) := by decide +kernel
theorem dX10_line_81 : decode cX10_line 81 = .ok (.iastore, 1) := by decide +kernel
theorem dX10_line_82 : decode cX10_line 82 = .ok (.aload_n 0, 1) := by decide +kernel
theorem dX10_line_83 : decode cX10_line 83 = .ok (.getfield 26, 3) := by decide +kernel
theorem dX10_line_86 : decode cX10_line 86 = .ok (.aload_n 0, 1) := by decide +kernel
theorem dX10_line_87 : decode cX10_line 87 = .ok (.getfield 13, 3) := by decide +kernel
theorem dX10_line_90 : decode cX10_line 90 = .ok (.iconst 1, 1) := by decide +kernel
theorem dX10_line_91 : decode cX10_line 91 = .ok (.iastore, 1) := by decide +kernel
theorem dX10_line_92 : decode cX10_line 92 = .ok (.aload_n 0, 1) := by decide +kernel
theorem dX10_line_93 : decode cX10_line 93 = .ok (.getfield 29, 3) := by decide +kernel
theorem dX10_line_96 : decode cX10_line 96 = .ok (.aload_n 0, 1) := by decide +kernel
theorem dX10_line_97 : decode cX10_line 97 = .ok (.getfield 13, 3) := by decide +kernel
theorem dX10_line_100 : decode cX10_line 100 = .ok (.iconst 2, 1) := by decide +kernel
theorem dX10_line_101 : decode cX10_line 101 = .ok (.iastore, 1) := by decide +kernel
theorem dX10_line_102 : decode cX10_line 102 = .ok (.aload_n 0, 1) := by decide +kernel
theorem dX10_line_103 : decode cX10_line 103 = .ok (.getfield 32, 3) := by decide +kernel
theorem dX10_line_106 : decode cX10_line 106 = .ok (.aload_n 0, 1) := by decide +kernel
theorem dX10_line_107 : decode cX10_line 107 = .ok (.getfield 13, 3) := by decide +kernel
theorem dX10_line_110 : decode cX10_line 110 = .ok (.iconst 1, 1) := by decide +kernel
theorem dX10_line_111 : decode cX10_line 111 = .ok (.iastore, 1) := by decide +kernel
theorem dX10_line_112 : decode cX10_line 112 = .ok (.aload_n 0, 1) := by decide +kernel
theorem dX10_line_113 : decode cX10_line 113 = .ok (.getfield 35, 3) := by decide +kernel
theorem dX10_line_116 : decode cX10_line 116 = .ok (.aload_n 0, 1) := by decide +kernel
theorem dX10_line_117 : decode cX10_line 117 = .ok (.getfield 13, 3) := by decide +kernel
theorem dX10_line_120 : decode cX10_line 120 = .ok (.iconst 1, 1) := by decide +kernel
theorem dX10_line_121 : decode cX10_line 121 = .ok (.iastore, 1) := by decide +kernel
theorem dX10_line_122 : decode cX10_line 122 = .ok (.aload_n 0, 1) := by decide +kernel
theorem dX10_line_123 : decode cX10_line 123 = .ok (.dup, 1) := by decide +kernel
theorem dX10_line_124 : decode cX10_line 124 = .ok (.getfield 13, 3) := by decide +kernel
theorem dX10_line_127 : decode cX10_line 127 = .ok (.iconst 1, 1) := by decide +kernel
theorem dX10_line_128 : decode cX10_line 128 = .ok (.iadd, 1) := by decide +kernel
theorem dX10_line_129 : decode cX10_line 129 = .ok (.putfield 13, 3) := by decide +kernel
theorem dX10_line_132 : decode cX10_line 132 = .ok (.aload_n 0, 1) := by decide +kernel
theorem dX10_line_133 : decode cX10_line 133 = .ok (.getfield 13, 3) := by decide +kernel
theorem dX10_line_136 : decode cX10_line 136 = .ok (.iconst 1, 1) := by decide +kernel
theorem dX10_line_137 : decode cX10_line 137 = .ok (.isub, 1) := by decide +kernel
theorem dX10_line_138 : decode cX10_line 138 = .ok (.ireturn, 1) := by decide +kernel
theorem dX10_mark_0 : decode cX10_mark 0 = .ok (.aload_n 0, 1) := by decide +kernel
theorem dX10_mark_1 : decode cX10_mark 1 = .ok (.iload_n 1, 1) := by decide +kernel
theorem dX10_mark_2 : decode cX10_mark 2 = .ok (.invokevirtual 131, 3) := by decide +kernel
theorem dX10_mark_5 : decode cX10_mark 5 = .ok (.ifCond .eq 13, 3) := by decide +kernel
theorem dX10_mark_8 : decode cX10_mark 8 = .ok (.iload_n 2, 1) := by decide +kernel
theorem dX10_mark_9 : decode cX10_mark 9 = .ok (.iconst 0, 1) := by decide +kernel
theorem dX10_mark_10 : decode cX10_mark 10 = .ok (.bipush 12, 2) := by decide +kernel
theorem dX10_mark_12 : decode cX10_mark 12 = .ok (.invokestatic 123, 3) := by decide +kernel
theorem dX10_mark_15 : decode cX10_mark 15 = .ok (.ifCond .ne 5, 3) := by decide +kernel
theorem dX10_mark_18 : decode cX10_mark 18 = .ok (.iconst (-1), 1) := by decide +kernel
theorem dX10_mark_19 : decode cX10_mark 19 = .ok (.ireturn, 1) := by decide +kernel
theorem dX10_mark_20 : decode cX10_mark 20 = .ok (.aload_n 0, 1) := by decide +kernel
theorem dX10_mark_21 : decode cX10_mark 21 = .ok (.getfield 20, 3) := by decide +kernel
theorem dX10_mark_24 : decode cX10_mark 24 = .ok (.iload_n 1, 1) := by decide +kernel
theorem dX10_mark_25 : decode cX10_mark 25 = .ok (.iaload, 1) := by decide +kernel
theorem dX10_mark_26 : decode cX10_mark 26 = .ok (.istore_n 3, 1) := by decide +kernel
theorem dX10_mark_27 : decode cX10_mark 27 = .ok (.aload_n 0, 1) := by decide +kernel
theorem dX10_mark_28 : decode cX10_mark 28 = .ok (.getfield 20, 3) := by decide +kernel
theorem dX10_mark_31 : decode cX10_mark 31 = .ok (.iload_n 1, 1) := by decide +kernel
theorem dX10_mark_32 : decode cX10_mark 32 = .ok (.iload_n 2, 1) := by decide +kernel
theorem dX10_mark_33 : decode cX10_mark 33 = .ok (.iastore, 1) := by decide +kernel
theorem dX10_mark_34 : decode cX10_mark 34 = .ok (.iload_n 3, 1) := by decide +kernel
theorem dX10_mark_35 : decode cX10_mark 35 = .ok (.ireturn, 1) := by decide +kernel
theorem dX10_pace_0 : decode cX10_pace 0 = .ok (.aload_n 0, 1) := by decide +kernel
theorem dX10_pace_1 : decode cX10_pace 1 = .ok (.iload_n 1, 1) := by decide +kernel
theorem dX10_pace_2 : decode cX10_pace 2 = .ok (.invokevirtual 131, 3) := by decide +kernel
theorem dX10_pace_5 : decode cX10_pace 5 = .ok (.ifCond .eq 12, 3) := by decide +kernel
theorem dX10_pace_8 : decode cX10_pace 8 = .ok (.iload_n 2, 1) := by decide +kernel
theorem dX10_pace_9 : decode cX10_pace 9 = .ok (.iconst 1, 1) := by decide +kernel
theorem dX10_pace_10 : decode cX10_pace 10 = .ok (.iconst 5, 1) := by decide +kernel
theorem dX10_pace_11 : decode cX10_pace 11 = .ok (.invokestatic 123, 3) := by decide +kernel
theorem dX10_pace_14 : decode cX10_pace 14 = .ok (.ifCond .ne 5, 3) := by decide +kernel
theorem dX10_pace_17 : decode cX10_pace 17 = .ok (.iconst (-1), 1) := by decide +kernel
theorem dX10_pace_18 : decode cX10_pace 18 = .ok (.ireturn, 1) := by decide +kernel
theorem dX10_pace_19 : decode cX10_pace 19 = .ok (.aload_n 0, 1) := by decide +kernel
theorem dX10_pace_20 : decode cX10_pace 20 = .ok (.getfield 23, 3) := by decide +kernel
theorem dX10_pace_23 : decode cX10_pace 23 = .ok (.iload_n 1, 1) := by decide +kernel
theorem dX10_pace_24 : decode cX10_pace 24 = .ok (.iaload, 1) := by decide +kernel
theorem dX10_pace_25 : decode cX10_pace 25 = .ok (.istore_n 3, 1) := by decide +kernel
theorem dX10_pace_26 : decode cX10_pace 26 = .ok (.aload_n 0, 1) := by decide +kernel
theorem dX10_pace_27 : decode cX10_pace 27 = .ok (.getfield 23, 3) := by decide +kernel
theorem dX10_pace_30 : decode cX10_pace 30 = .ok (.iload_n 1, 1) := by decide +kernel
theorem dX10_pace_31 : decode cX10_pace 31 = .ok (.iload_n 2, 1) := by decide +kernel
theorem dX10_pace_32 : decode cX10_pace 32 = .ok (.iastore, 1) := by decide +kernel
theorem dX10_pace_33 : decode cX10_pace 33 = .ok (.iload_n 3, 1) := by decide +kernel
theorem dX10_pace_34 : decode cX10_pace 34 = .ok (.ireturn, 1) := by decide +kernel
theorem dX10_part_0 : decode cX10_part 0 = .ok (.aload_n 0, 1) := by decide +kernel
theorem dX10_part_1 : decode cX10_part 1 = .ok (.iload_n 1, 1) := by decide +kernel
theorem dX10_part_2 : decode cX10_part 2 = .ok (.invokevirtual 131, 3) := by decide +kernel
theorem dX10_part_5 : decode cX10_part 5 = .ok (.ifCond .eq 13, 3) := by decide +kernel
theorem dX10_part_8 : decode cX10_part 8 = .ok (.iload_n 2, 1) := by decide +kernel
theorem dX10_part_9 : decode cX10_part 9 = .ok (.iconst 0, 1) := by decide +kernel
theorem dX10_part_10 : decode cX10_part 10 = .ok (.bipush 12, 2) := by decide +kernel
theorem dX10_part_12 : decode cX10_part 12 = .ok (.invokestatic 123, 3) := by decide +kernel
theorem dX10_part_15 : decode cX10_part 15 = .ok (.ifCond .ne 5, 3) := by decide +kernel
theorem dX10_part_18 : decode cX10_part 18 = .ok (.iconst (-1), 1) := by decide +kernel
theorem dX10_part_19 : decode cX10_part 19 = .ok (.ireturn, 1) := by decide +kernel
theorem dX10_part_20 : decode cX10_part 20 = .ok (.aload_n 0, 1) := by decide +kernel
theorem dX10_part_21 : decode cX10_part 21 = .ok (.getfield 16, 3) := by decide +kernel
theorem dX10_part_24 : decode cX10_part 24 = .ok (.iload_n 1, 1) := by decide +kernel
theorem dX10_part_25 : decode cX10_part 25 = .ok (.iaload, 1) := by decide +kernel
theorem dX10_part_26 : decode cX10_part 26 = .ok (.ifCond .ne 6, 3) := by decide +kernel
theorem dX10_part_29 : decode cX10_part 29 = .ok (.bipush (-12), 2) := by decide +kernel
theorem dX10_part_31 : decode cX10_part 31 = .ok (.ireturn, 1) := by decide +kernel
theorem dX10_part_32 : decode cX10_part 32 = .ok (.aload_n 0, 1) := by decide +kernel
theorem dX10_part_33 : decode cX10_part 33 = .ok (.invokevirtual 127, 3) := by decide +kernel
theorem dX10_part_36 : decode cX10_part 36 = .ok (.aload_n 0, 1) := by decide +kernel
theorem dX10_part_37 : decode cX10_part 37 = .ok (.getfield 26, 3) := by decide +kernel
theorem dX10_part_40 : decode cX10_part 40 = .ok (.iload_n 1, 1) := by decide +kernel
theorem dX10_part_41 : decode cX10_part 41 = .ok (.iaload, 1) := by decide +kernel
theorem dX10_part_42 : decode cX10_part 42 = .ok (.isub, 1) := by decide +kernel
theorem dX10_part_43 : decode cX10_part 43 = .ok (.iload_n 2, 1) := by decide +kernel
theorem dX10_part_44 : decode cX10_part 44 = .ok (.iadd, 1) := by decide +kernel
theorem dX10_part_45 : decode cX10_part 45 = .ok (.aload_n 0, 1) := by decide +kernel
theorem dX10_part_46 : decode cX10_part 46 = .ok (.getfield 7, 3) := by decide +kernel
theorem dX10_part_49 : decode cX10_part 49 = .ok (.if_icmp .le 6, 3) := by decide +kernel
theorem dX10_part_52 : decode cX10_part 52 = .ok (.bipush (-2), 2) := by decide +kernel
theorem dX10_part_54 : decode cX10_part 54 = .ok (.ireturn, 1) := by decide +kernel
theorem dX10_part_55 : decode cX10_part 55 = .ok (.aload_n 0, 1) := by decide +kernel
theorem dX10_part_56 : decode cX10_part 56 = .ok (.getfield 26, 3) := by decide +kernel
theorem dX10_part_59 : decode cX10_part 59 = .ok (.iload_n 1, 1) := by decide +kernel
theorem dX10_part_60 : decode cX10_part 60 = .ok (.iaload, 1) := by decide +kernel
theorem dX10_part_61 : decode cX10_part 61 = .ok (.istore_n 3, 1) := by decide +kernel
theorem dX10_part_62 : decode cX10_part 62 = .ok (.aload_n 0, 1) := by decide +kernel
theorem dX10_part_63 : decode cX10_part 63 = .ok (.getfield 26, 3) := by decide +kernel
theorem dX10_part_66 : decode cX10_part 66 = .ok (.iload_n 1, 1) := by decide +kernel
theorem dX10_part_67 : decode cX10_part 67 = .ok (.iload_n 2, 1) := by decide +kernel
theorem dX10_part_68 : decode cX10_part 68 = .ok (.iastore, 1) := by decide +kernel
theorem dX10_part_69 : decode cX10_part 69 = .ok (.iload_n 3, 1) := by decide +kernel
theorem dX10_part_70 : decode cX10_part 70 = .ok (.ireturn, 1) := by decide +kernel
theorem dX10_hold_0 : decode cX10_hold 0 = .ok (.aload_n 0, 1) := by decide +kernel
theorem dX10_hold_1 : decode cX10_hold 1 = .ok (.iload_n 1, 1) := by decide +kernel
theorem dX10_hold_2 : decode cX10_hold 2 = .ok (.invokevirtual 131, 3) := by decide +kernel
theorem dX10_hold_5 : decode cX10_hold 5 = .ok (.ifCond .eq 38, 3) := by decide +kernel
theorem dX10_hold_8 : decode cX10_hold 8 = .ok (.iload_n 2, 1) := by decide +kernel
theorem dX10_hold_9 : decode cX10_hold 9 = .ok (.iconst 1, 1) := by decide +kernel
theorem dX10_hold_10 : decode cX10_hold 10 = .ok (.bipush 12, 2) := by decide +kernel
theorem dX10_hold_12 : decode cX10_hold 12 = .ok (.invokestatic 123, 3) := by decide +kernel
theorem dX10_hold_15 : decode cX10_hold 15 = .ok (.ifCond .eq 28, 3) := by decide +kernel
theorem dX10_hold_18 : decode cX10_hold 18 = .ok (.iload_n 3, 1) := by decide +kernel
theorem dX10_hold_19 : decode cX10_hold 19 = .ok (.iconst 0, 1) := by decide +kernel
theorem dX10_hold_20 : decode cX10_hold 20 = .ok (.bipush 11, 2) := by decide +kernel
theorem dX10_hold_22 : decode cX10_hold 22 = .ok (.invokestatic 123, 3) := by decide +kernel
theorem dX10_hold_25 : decode cX10_hold 25 = .ok (.ifCond .eq 18, 3) := by decide +kernel
theorem dX10_hold_28 : decode cX10_hold 28 = .ok (.iload_n 3, 1) := by decide +kernel
theorem dX10_hold_29 : decode cX10_hold 29 = .ok (.iload_n 2, 1) := by decide +kernel
theorem dX10_hold_30 : decode cX10_hold 30 = .ok (.if_icmp .ge 13, 3) := by decide +kernel
theorem dX10_hold_33 : decode cX10_hold 33 = .ok (.iload 4, 2) := by decide +kernel
theorem dX10_hold_35 : decode cX10_hold 35 = .ok (.iconst 0, 1) := by decide +kernel
theorem dX10_hold_36 : decode cX10_hold 36 = .ok (.iconst 5, 1) := by decide +kernel
theorem dX10_hold_37 : decode cX10_hold 37 = .ok (.invokestatic 123, 3) := by decide +kernel
theorem dX10_hold_40 : decode cX10_hold 40 = .ok (.ifCond .ne 5, 3) := by decide +kernel
theorem dX10_hold_43 : decode cX10_hold 43 = .ok (.iconst (-1), 1) := by decide +kernel
theorem dX10_hold_44 : decode cX10_hold 44 = .ok (.ireturn, 1) := by decide +kernel
theorem dX10_hold_45 : decode cX10_hold 45 = .ok (.aload_n 0, 1) := by decide +kernel
theorem dX10_hold_46 : decode cX10_hold 46 = .ok (.getfield 16, 3) := by decide +kernel
theorem dX10_hold_49 : decode cX10_hold 49 = .ok (.iload_n 1, 1) := by decide +kernel
theorem dX10_hold_50 : decode cX10_hold 50 = .ok (.iaload, 1) := by decide +kernel
theorem dX10_hold_51 : decode cX10_hold 51 = .ok (.iconst 2, 1) := by decide +kernel
theorem dX10_hold_52 : decode cX10_hold 52 = .ok (.if_icmp .eq 6, 3) := by decide +kernel
theorem dX10_hold_55 : decode cX10_hold 55 = .ok (.bipush (-12), 2) := by decide +kernel
theorem dX10_hold_57 : decode cX10_hold 57 = .ok (.ireturn, 1) := by decide +kernel
theorem dX10_hold_58 : decode cX10_hold 58 = .ok (.aload_n 0, 1) := by decide +kernel
theorem dX10_hold_59 : decode cX10_hold 59 = .ok (.getfield 29, 3) := by decide +kernel
theorem dX10_hold_62 : decode cX10_hold 62 = .ok (.iload_n 1, 1) := by decide +kernel
theorem dX10_hold_63 : decode cX10_hold 63 = .ok (.iload_n 2, 1) := by decide +kernel
theorem dX10_hold_64 : decode cX10_hold 64 = .ok (.iastore, 1) := by decide +kernel
theorem dX10_hold_65 : decode cX10_hold 65 = .ok (.aload_n 0, 1) := by decide +kernel
theorem dX10_hold_66 : decode cX10_hold 66 = .ok (.getfield 32, 3) := by decide +kernel
theorem dX10_hold_69 : decode cX10_hold 69 = .ok (.iload_n 1, 1) := by decide +kernel
theorem dX10_hold_70 : decode cX10_hold 70 = .ok (.iload_n 3, 1) := by decide +kernel
theorem dX10_hold_71 : decode cX10_hold 71 = .ok (.iastore, 1) := by decide +kernel
theorem dX10_hold_72 : decode cX10_hold 72 = .ok (.aload_n 0, 1) := by decide +kernel
theorem dX10_hold_73 : decode cX10_hold 73 = .ok (.getfield 35, 3) := by decide +kernel
theorem dX10_hold_76 : decode cX10_hold 76 = .ok (.iload_n 1, 1) := by decide +kernel
theorem dX10_hold_77 : decode cX10_hold 77 = .ok (.iload 4, 2) := by decide +kernel
theorem dX10_hold_79 : decode cX10_hold 79 = .ok (.iastore, 1) := by decide +kernel
theorem dX10_hold_80 : decode cX10_hold 80 = .ok (.iconst 1, 1) := by decide +kernel
theorem dX10_hold_81 : decode cX10_hold 81 = .ok (.ireturn, 1) := by decide +kernel
theorem dX10_told_0 : decode cX10_told 0 = .ok (.aload_n 0, 1) := by decide +kernel
theorem dX10_told_1 : decode cX10_told 1 = .ok (.iload_n 1, 1) := by decide +kernel
theorem dX10_told_2 : decode cX10_told 2 = .ok (.invokevirtual 131, 3) := by decide +kernel
theorem dX10_told_5 : decode cX10_told 5 = .ok (.ifCond .ne 5, 3) := by decide +kernel
theorem dX10_told_8 : decode cX10_told 8 = .ok (.iconst (-1), 1) := by decide +kernel
theorem dX10_told_9 : decode cX10_told 9 = .ok (.ireturn, 1) := by decide +kernel
theorem dX10_told_10 : decode cX10_told 10 = .ok (.aload_n 0, 1) := by decide +kernel
theorem dX10_told_11 : decode cX10_told 11 = .ok (.getfield 16, 3) := by decide +kernel
theorem dX10_told_14 : decode cX10_told 14 = .ok (.iload_n 1, 1) := by decide +kernel
theorem dX10_told_15 : decode cX10_told 15 = .ok (.iaload, 1) := by decide +kernel
theorem dX10_told_16 : decode cX10_told 16 = .ok (.ifCond .le 7, 3) := by decide +kernel
theorem dX10_told_19 : decode cX10_told 19 = .ok (.iconst 1, 1) := by decide +kernel
theorem dX10_told_20 : decode cX10_told 20 = .ok (.goto 4, 3) := by decide +kernel
theorem dX10_told_23 : decode cX10_told 23 = .ok (.iconst 0, 1) := by decide +kernel
theorem dX10_told_24 : decode cX10_told 24 = .ok (.istore_n 3, 1) := by decide +kernel
theorem dX10_told_25 : decode cX10_told 25 = .ok (.aload_n 0, 1) := by decide +kernel
theorem dX10_told_26 : decode cX10_told 26 = .ok (.getfield 16, 3) := by decide +kernel
theorem dX10_told_29 : decode cX10_told 29 = .ok (.iload_n 1, 1) := by decide +kernel
theorem dX10_told_30 : decode cX10_told 30 = .ok (.iaload, 1) := by decide +kernel
theorem dX10_told_31 : decode cX10_told 31 = .ok (.iconst 2, 1) := by decide +kernel
theorem dX10_told_32 : decode cX10_told 32 = .ok (.if_icmp .ne 7, 3) := by decide +kernel
theorem dX10_told_35 : decode cX10_told 35 = .ok (.iconst 1, 1) := by decide +kernel
theorem dX10_told_36 : decode cX10_told 36 = .ok (.goto 4, 3) := by decide +kernel
theorem dX10_told_39 : decode cX10_told 39 = .ok (.iconst 0, 1) := by decide +kernel
theorem dX10_told_40 : decode cX10_told 40 = .ok (.istore 4, 2) := by decide +kernel
theorem dX10_told_42 : decode cX10_told 42 = .ok (.iload_n 2, 1) := by decide +kernel
theorem dX10_told_43 : decode cX10_told 43 = .ok (.tableswitch 152 0 7 #[45, 52, 59, 74, 90, 106, 122, 145], 45) := by decide +kernel
theorem dX10_told_88 : decode cX10_told 88 = .ok (.aload_n 0, 1) := by decide +kernel
theorem dX10_told_89 : decode cX10_told 89 = .ok (.getfield 16, 3) := by decide +kernel
theorem dX10_told_92 : decode cX10_told 92 = .ok (.iload_n 1, 1) := by decide +kernel
theorem dX10_told_93 : decode cX10_told 93 = .ok (.iaload, 1) := by decide +kernel
theorem dX10_told_94 : decode cX10_told 94 = .ok (.ireturn, 1) := by decide +kernel
theorem dX10_told_95 : decode cX10_told 95 = .ok (.aload_n 0, 1) := by decide +kernel
theorem dX10_told_96 : decode cX10_told 96 = .ok (.getfield 20, 3) := by decide +kernel
theorem dX10_told_99 : decode cX10_told 99 = .ok (.iload_n 1, 1) := by decide +kernel
theorem dX10_told_100 : decode cX10_told 100 = .ok (.iaload, 1) := by decide +kernel
theorem dX10_told_101 : decode cX10_told 101 = .ok (.ireturn, 1) := by decide +kernel
theorem dX10_told_102 : decode cX10_told 102 = .ok (.iload_n 3, 1) := by decide +kernel
theorem dX10_told_103 : decode cX10_told 103 = .ok (.ifCond .eq 12, 3) := by decide +kernel
theorem dX10_told_106 : decode cX10_told 106 = .ok (.aload_n 0, 1) := by decide +kernel
theorem dX10_told_107 : decode cX10_told 107 = .ok (.getfield 26, 3) := by decide +kernel
theorem dX10_told_110 : decode cX10_told 110 = .ok (.iload_n 1, 1) := by decide +kernel
theorem dX10_told_111 : decode cX10_told 111 = .ok (.iaload, 1) := by decide +kernel
theorem dX10_told_112 : decode cX10_told 112 = .ok (.goto 4, 3) := by decide +kernel
theorem dX10_told_115 : decode cX10_told 115 = .ok (.iconst 0, 1) := by decide +kernel
theorem dX10_told_116 : decode cX10_told 116 = .ok (.ireturn, 1) := by decide +kernel
theorem dX10_told_117 : decode cX10_told 117 = .ok (.iload 4, 2) := by decide +kernel
theorem dX10_told_119 : decode cX10_told 119 = .ok (.ifCond .eq 12, 3) := by decide +kernel
theorem dX10_told_122 : decode cX10_told 122 = .ok (.aload_n 0, 1) := by decide +kernel
theorem dX10_told_123 : decode cX10_told 123 = .ok (.getfield 29, 3) := by decide +kernel
theorem dX10_told_126 : decode cX10_told 126 = .ok (.iload_n 1, 1) := by decide +kernel
theorem dX10_told_127 : decode cX10_told 127 = .ok (.iaload, 1) := by decide +kernel
theorem dX10_told_128 : decode cX10_told 128 = .ok (.goto 4, 3) := by decide +kernel
theorem dX10_told_131 : decode cX10_told 131 = .ok (.iconst 0, 1) := by decide +kernel
theorem dX10_told_132 : decode cX10_told 132 = .ok (.ireturn, 1) := by decide +kernel
theorem dX10_told_133 : decode cX10_told 133 = .ok (.iload 4, 2) := by decide +kernel
theorem dX10_told_135 : decode cX10_told 135 = .ok (.ifCond .eq 12, 3) := by decide +kernel
theorem dX10_told_138 : decode cX10_told 138 = .ok (.aload_n 0, 1) := by decide +kernel
theorem dX10_told_139 : decode cX10_told 139 = .ok (.getfield 32, 3) := by decide +kernel
theorem dX10_told_142 : decode cX10_told 142 = .ok (.iload_n 1, 1) := by decide +kernel
theorem dX10_told_143 : decode cX10_told 143 = .ok (.iaload, 1) := by decide +kernel
theorem dX10_told_144 : decode cX10_told 144 = .ok (.goto 4, 3) := by decide +kernel
theorem dX10_told_147 : decode cX10_told 147 = .ok (.iconst 0, 1) := by decide +kernel
theorem dX10_told_148 : decode cX10_told 148 = .ok (.ireturn, 1) := by decide +kernel
theorem dX10_told_149 : decode cX10_told 149 = .ok (.iload 4, 2) := by decide +kernel
theorem dX10_told_151 : decode cX10_told 151 = .ok (.ifCond .eq 12, 3) := by decide +kernel
theorem dX10_told_154 : decode cX10_told 154 = .ok (.aload_n 0, 1) := by decide +kernel
theorem dX10_told_155 : decode cX10_told 155 = .ok (.getfield 35, 3) := by decide +kernel
theorem dX10_told_158 : decode cX10_told 158 = .ok (.iload_n 1, 1) := by decide +kernel
theorem dX10_told_159 : decode cX10_told 159 = .ok (.iaload, 1) := by decide +kernel
theorem dX10_told_160 : decode cX10_told 160 = .ok (.goto 4, 3) := by decide +kernel
theorem dX10_told_163 : decode cX10_told 163 = .ok (.iconst 0, 1) := by decide +kernel
theorem dX10_told_164 : decode cX10_told 164 = .ok (.ireturn, 1) := by decide +kernel
theorem dX10_told_165 : decode cX10_told 165 = .ok (.iload 4, 2) := by decide +kernel
theorem dX10_told_167 : decode cX10_told 167 = .ok (.ifCond .eq 19, 3) := by decide +kernel
theorem dX10_told_170 : decode cX10_told 170 = .ok (.aload_n 0, 1) := by decide +kernel
theorem dX10_told_171 : decode cX10_told 171 = .ok (.getfield 29, 3) := by decide +kernel
theorem dX10_told_174 : decode cX10_told 174 = .ok (.iload_n 1, 1) := by decide +kernel
theorem dX10_told_175 : decode cX10_told 175 = .ok (.iaload, 1) := by decide +kernel
theorem dX10_told_176 : decode cX10_told 176 = .ok (.aload_n 0, 1) := by decide +kernel
theorem dX10_told_177 : decode cX10_told 177 = .ok (.getfield 35, 3) := by decide +kernel
theorem dX10_told_180 : decode cX10_told 180 = .ok (.iload_n 1, 1) := by decide +kernel
theorem dX10_told_181 : decode cX10_told 181 = .ok (.iaload, 1) := by decide +kernel
theorem dX10_told_182 : decode cX10_told 182 = .ok (.iadd, 1) := by decide +kernel
theorem dX10_told_183 : decode cX10_told 183 = .ok (.goto 4, 3) := by decide +kernel
theorem dX10_told_186 : decode cX10_told 186 = .ok (.iconst 0, 1) := by decide +kernel
theorem dX10_told_187 : decode cX10_told 187 = .ok (.ireturn, 1) := by decide +kernel
theorem dX10_told_188 : decode cX10_told 188 = .ok (.aload_n 0, 1) := by decide +kernel
theorem dX10_told_189 : decode cX10_told 189 = .ok (.getfield 23, 3) := by decide +kernel
theorem dX10_told_192 : decode cX10_told 192 = .ok (.iload_n 1, 1) := by decide +kernel
theorem dX10_told_193 : decode cX10_told 193 = .ok (.iaload, 1) := by decide +kernel
theorem dX10_told_194 : decode cX10_told 194 = .ok (.ireturn, 1) := by decide +kernel
theorem dX10_told_195 : decode cX10_told 195 = .ok (.iconst (-1), 1) := by decide +kernel
theorem dX10_told_196 : decode cX10_told 196 = .ok (.ireturn, 1) := by decide +kernel
theorem dX10_share_0 : decode cX10_share 0 = .ok (.iload_n 1, 1) := by decide +kernel
theorem dX10_share_1 : decode cX10_share 1 = .ok (.iconst 1, 1) := by decide +kernel
theorem dX10_share_2 : decode cX10_share 2 = .ok (.sipush 160, 3) := by decide +kernel
theorem dX10_share_5 : decode cX10_share 5 = .ok (.invokestatic 123, 3) := by decide +kernel
theorem dX10_share_8 : decode cX10_share 8 = .ok (.ifCond .ne 5, 3) := by decide +kernel
theorem dX10_share_11 : decode cX10_share 11 = .ok (.iconst (-1), 1) := by decide +kernel
theorem dX10_share_12 : decode cX10_share 12 = .ok (.ireturn, 1) := by decide +kernel
theorem dX10_share_13 : decode cX10_share 13 = .ok (.aload_n 0, 1) := by decide +kernel
theorem dX10_share_14 : decode cX10_share 14 = .ok (.getfield 38, 3) := by decide +kernel
theorem dX10_share_17 : decode cX10_share 17 = .ok (.istore_n 2, 1) := by decide +kernel
theorem dX10_share_18 : decode cX10_share 18 = .ok (.aload_n 0, 1) := by decide +kernel
theorem dX10_share_19 : decode cX10_share 19 = .ok (.iload_n 1, 1) := by decide +kernel
theorem dX10_share_20 : decode cX10_share 20 = .ok (.putfield 38, 3) := by decide +kernel
theorem dX10_share_23 : decode cX10_share 23 = .ok (.iload_n 2, 1) := by decide +kernel
theorem dX10_share_24 : decode cX10_share 24 = .ok (.ireturn, 1) := by decide +kernel
theorem dX10_isSheet_0 : decode cX10_isSheet 0 = .ok (.iload_n 0, 1) := by decide +kernel
theorem dX10_isSheet_1 : decode cX10_isSheet 1 = .ok (.iconst 0, 1) := by decide +kernel
theorem dX10_isSheet_2 : decode cX10_isSheet 2 = .ok (.iconst 3, 1) := by decide +kernel
theorem dX10_isSheet_3 : decode cX10_isSheet 3 = .ok (.invokestatic 123, 3) := by decide +kernel
theorem dX10_isSheet_6 : decode cX10_isSheet 6 = .ok (.ireturn, 1) := by decide +kernel
theorem dX10_sheet_0 : decode cX10_sheet 0 = .ok (.iload_n 1, 1) := by decide +kernel
theorem dX10_sheet_1 : decode cX10_sheet 1 = .ok (.invokestatic 135, 3) := by decide +kernel
theorem dX10_sheet_4 : decode cX10_sheet 4 = .ok (.ifCond .eq 19, 3) := by decide +kernel
theorem dX10_sheet_7 : decode cX10_sheet 7 = .ok (.iload_n 2, 1) := by decide +kernel
theorem dX10_sheet_8 : decode cX10_sheet 8 = .ok (.iconst 0, 1) := by decide +kernel
theorem dX10_sheet_9 : decode cX10_sheet 9 = .ok (.iconst 2, 1) := by decide +kernel
theorem dX10_sheet_10 : decode cX10_sheet 10 = .ok (.invokestatic 123, 3) := by decide +kernel
theorem dX10_sheet_13 : decode cX10_sheet 13 = .ok (.ifCond .eq 10, 3) := by decide +kernel
theorem dX10_sheet_16 : decode cX10_sheet 16 = .ok (.iload_n 3, 1) := by decide +kernel
theorem dX10_sheet_17 : decode cX10_sheet 17 = .ok (.sipush 160, 3) := by decide +kernel
theorem dX10_sheet_20 : decode cX10_sheet 20 = .ok (.if_icmp .le 5, 3) := by decide +kernel
theorem dX10_sheet_23 : decode cX10_sheet 23 = .ok (.iconst (-1), 1) := by decide +kernel
theorem dX10_sheet_24 : decode cX10_sheet 24 = .ok (.ireturn, 1) := by decide +kernel
theorem dX10_sheet_25 : decode cX10_sheet 25 = .ok (.iload_n 3, 1) := by decide +kernel
theorem dX10_sheet_26 : decode cX10_sheet 26 = .ok (.ifCond .ge 6, 3) := by decide +kernel
theorem dX10_sheet_29 : decode cX10_sheet 29 = .ok (.bipush (-14), 2) := by decide +kernel
theorem dX10_sheet_31 : decode cX10_sheet 31 = .ok (.ireturn, 1) := by decide +kernel
theorem dX10_sheet_32 : decode cX10_sheet 32 = .ok (.aload_n 0, 1) := by decide +kernel
theorem dX10_sheet_33 : decode cX10_sheet 33 = .ok (.getfield 41, 3) := by decide +kernel
theorem dX10_sheet_36 : decode cX10_sheet 36 = .ok (.iload_n 1, 1) := by decide +kernel
theorem dX10_sheet_37 : decode cX10_sheet 37 = .ok (.iload_n 2, 1) := by decide +kernel
theorem dX10_sheet_38 : decode cX10_sheet 38 = .ok (.iastore, 1) := by decide +kernel
theorem dX10_sheet_39 : decode cX10_sheet 39 = .ok (.aload_n 0, 1) := by decide +kernel
theorem dX10_sheet_40 : decode cX10_sheet 40 = .ok (.getfield 44, 3) := by decide +kernel
theorem dX10_sheet_43 : decode cX10_sheet 43 = .ok (.iload_n 1, 1) := by decide +kernel
theorem dX10_sheet_44 : decode cX10_sheet 44 = .ok (.iload_n 3, 1) := by decide +kernel
theorem dX10_sheet_45 : decode cX10_sheet 45 = .ok (.iastore, 1) := by decide +kernel
theorem dX10_sheet_46 : decode cX10_sheet 46 = .ok (.iconst 0, 1) := by decide +kernel
theorem dX10_sheet_47 : decode cX10_sheet 47 = .ok (.istore 4, 2) := by decide +kernel
theorem dX10_sheet_49 : decode cX10_sheet 49 = .ok (.iload 4, 2) := by decide +kernel
theorem dX10_sheet_51 : decode cX10_sheet 51 = .ok (.sipush 160, 3) := by decide +kernel
theorem dX10_sheet_54 : decode cX10_sheet 54 = .ok (.if_icmp .ge 23, 3) := by decide +kernel
theorem dX10_sheet_57 : decode cX10_sheet 57 = .ok (.aload_n 0, 1) := by decide +kernel
theorem dX10_sheet_58 : decode cX10_sheet 58 = .ok (.getfield 47, 3) := by decide +kernel
theorem dX10_sheet_61 : decode cX10_sheet 61 = .ok (.sipush 160, 3) := by decide +kernel
theorem dX10_sheet_64 : decode cX10_sheet 64 = .ok (.iload_n 1, 1) := by decide +kernel
theorem dX10_sheet_65 : decode cX10_sheet 65 = .ok (.imul, 1) := by decide +kernel
theorem dX10_sheet_66 : decode cX10_sheet 66 = .ok (.iload 4, 2) := by decide +kernel
theorem dX10_sheet_68 : decode cX10_sheet 68 = .ok (.iadd, 1) := by decide +kernel
theorem dX10_sheet_69 : decode cX10_sheet 69 = .ok (.iconst 0, 1) := by decide +kernel
theorem dX10_sheet_70 : decode cX10_sheet 70 = .ok (.iastore, 1) := by decide +kernel
theorem dX10_sheet_71 : decode cX10_sheet 71 = .ok (.iinc 4 1, 3) := by decide +kernel
theorem dX10_sheet_74 : decode cX10_sheet 74 = .ok (.goto (-25), 3) := by decide +kernel
theorem dX10_sheet_77 : decode cX10_sheet 77 = .ok (.iload_n 3, 1) := by decide +kernel
theorem dX10_sheet_78 : decode cX10_sheet 78 = .ok (.ireturn, 1) := by decide +kernel
theorem dX10_drop_0 : decode cX10_drop 0 = .ok (.iload_n 1, 1) := by decide +kernel
theorem dX10_drop_1 : decode cX10_drop 1 = .ok (.invokestatic 135, 3) := by decide +kernel
theorem dX10_drop_4 : decode cX10_drop 4 = .ok (.ifCond .ne 5, 3) := by decide +kernel
theorem dX10_drop_7 : decode cX10_drop 7 = .ok (.iconst (-1), 1) := by decide +kernel
theorem dX10_drop_8 : decode cX10_drop 8 = .ok (.ireturn, 1) := by decide +kernel
theorem dX10_drop_9 : decode cX10_drop 9 = .ok (.aload_n 0, 1) := by decide +kernel
theorem dX10_drop_10 : decode cX10_drop 10 = .ok (.getfield 41, 3) := by decide +kernel
theorem dX10_drop_13 : decode cX10_drop 13 = .ok (.iload_n 1, 1) := by decide +kernel
theorem dX10_drop_14 : decode cX10_drop 14 = .ok (.iaload, 1) := by decide +kernel
theorem dX10_drop_15 : decode cX10_drop 15 = .ok (.ifCond .ge 6, 3) := by decide +kernel
theorem dX10_drop_18 : decode cX10_drop 18 = .ok (.bipush (-11), 2) := by decide +kernel
theorem dX10_drop_20 : decode cX10_drop 20 = .ok (.ireturn, 1) := by decide +kernel
theorem dX10_drop_21 : decode cX10_drop 21 = .ok (.aload_n 0, 1) := by decide +kernel
theorem dX10_drop_22 : decode cX10_drop 22 = .ok (.getfield 41, 3) := by decide +kernel
theorem dX10_drop_25 : decode cX10_drop 25 = .ok (.iload_n 1, 1) := by decide +kernel
theorem dX10_drop_26 : decode cX10_drop 26 = .ok (.iconst (-1), 1) := by decide +kernel
theorem dX10_drop_27 : decode cX10_drop 27 = .ok (.iastore, 1) := by decide +kernel
theorem dX10_drop_28 : decode cX10_drop 28 = .ok (.aload_n 0, 1) := by decide +kernel
theorem dX10_drop_29 : decode cX10_drop 29 = .ok (.getfield 44, 3) := by decide +kernel
theorem dX10_drop_32 : decode cX10_drop 32 = .ok (.iload_n 1, 1) := by decide +kernel
theorem dX10_drop_33 : decode cX10_drop 33 = .ok (.iaload, 1) := by decide +kernel
theorem dX10_drop_34 : decode cX10_drop 34 = .ok (.ireturn, 1) := by decide +kernel
theorem dX10_item_0 : decode cX10_item 0 = .ok (.iload_n 1, 1) := by decide +kernel
theorem dX10_item_1 : decode cX10_item 1 = .ok (.invokestatic 135, 3) := by decide +kernel
theorem dX10_item_4 : decode cX10_item 4 = .ok (.ifCond .eq 12, 3) := by decide +kernel
theorem dX10_item_7 : decode cX10_item 7 = .ok (.iload_n 2, 1) := by decide +kernel
theorem dX10_item_8 : decode cX10_item 8 = .ok (.iconst 0, 1) := by decide +kernel
theorem dX10_item_9 : decode cX10_item 9 = .ok (.iconst 2, 1) := by decide +kernel
theorem dX10_item_10 : decode cX10_item 10 = .ok (.invokestatic 123, 3) := by decide +kernel
theorem dX10_item_13 : decode cX10_item 13 = .ok (.ifCond .ne 5, 3) := by decide +kernel
theorem dX10_item_16 : decode cX10_item 16 = .ok (.iconst (-1), 1) := by decide +kernel
theorem dX10_item_17 : decode cX10_item 17 = .ok (.ireturn, 1) := by decide +kernel
theorem dX10_item_18 : decode cX10_item 18 = .ok (.aload_n 0, 1) := by decide +kernel
theorem dX10_item_19 : decode cX10_item 19 = .ok (.getfield 41, 3) := by decide +kernel
theorem dX10_item_22 : decode cX10_item 22 = .ok (.iload_n 1, 1) := by decide +kernel
theorem dX10_item_23 : decode cX10_item 23 = .ok (.iaload, 1) := by decide +kernel
theorem dX10_item_24 : decode cX10_item 24 = .ok (.ifCond .ge 6, 3) := by decide +kernel
theorem dX10_item_27 : decode cX10_item 27 = .ok (.bipush (-11), 2) := by decide +kernel
theorem dX10_item_29 : decode cX10_item 29 = .ok (.ireturn, 1) := by decide +kernel
theorem dX10_item_30 : decode cX10_item 30 = .ok (.aload_n 0, 1) := by decide +kernel
theorem dX10_item_31 : decode cX10_item 31 = .ok (.getfield 41, 3) := by decide +kernel
theorem dX10_item_34 : decode cX10_item 34 = .ok (.iload_n 1, 1) := by decide +kernel
theorem dX10_item_35 : decode cX10_item 35 = .ok (.iaload, 1) := by decide +kernel
theorem dX10_item_36 : decode cX10_item 36 = .ok (.iload_n 2, 1) := by decide +kernel
theorem dX10_item_37 : decode cX10_item 37 = .ok (.if_icmp .eq 6, 3) := by decide +kernel
theorem dX10_item_40 : decode cX10_item 40 = .ok (.bipush (-12), 2) := by decide +kernel
theorem dX10_item_42 : decode cX10_item 42 = .ok (.ireturn, 1) := by decide +kernel
theorem dX10_item_43 : decode cX10_item 43 = .ok (.iload_n 3, 1) := by decide +kernel
theorem dX10_item_44 : decode cX10_item 44 = .ok (.iconst 0, 1) := by decide +kernel
theorem dX10_item_45 : decode cX10_item 45 = .ok (.aload_n 0, 1) := by decide +kernel
theorem dX10_item_46 : decode cX10_item 46 = .ok (.getfield 44, 3) := by decide +kernel
theorem dX10_item_49 : decode cX10_item 49 = .ok (.iload_n 1, 1) := by decide +kernel
theorem dX10_item_50 : decode cX10_item 50 = .ok (.iaload, 1) := by decide +kernel
theorem dX10_item_51 : decode cX10_item 51 = .ok (.iconst 1, 1) := by decide +kernel
theorem dX10_item_52 : decode cX10_item 52 = .ok (.isub, 1) := by decide +kernel
theorem dX10_item_53 : decode cX10_item 53 = .ok (.invokestatic 123, 3) := by decide +kernel
theorem dX10_item_56 : decode cX10_item 56 = .ok (.ifCond .ne 6, 3) := by decide +kernel
theorem dX10_item_59 : decode cX10_item 59 = .ok (.bipush (-13), 2) := by decide +kernel
theorem dX10_item_61 : decode cX10_item 61 = .ok (.ireturn, 1) := by decide +kernel
theorem dX10_item_62 : decode cX10_item 62 = .ok (.aload_n 0, 1) := by decide +kernel
theorem dX10_item_63 : decode cX10_item 63 = .ok (.getfield 47, 3) := by decide +kernel
theorem dX10_item_66 : decode cX10_item 66 = .ok (.sipush 160, 3) := by decide +kernel
theorem dX10_item_69 : decode cX10_item 69 = .ok (.iload_n 1, 1) := by decide +kernel
theorem dX10_item_70 : decode cX10_item 70 = .ok (.imul, 1) := by decide +kernel
theorem dX10_item_71 : decode cX10_item 71 = .ok (.iload_n 3, 1) := by decide +kernel
theorem dX10_item_72 : decode cX10_item 72 = .ok (.iadd, 1) := by decide +kernel
theorem dX10_item_73 : decode cX10_item 73 = .ok (.iload_n 2, 1) := by decide +kernel
theorem dX10_item_74 : decode cX10_item 74 = .ok (.ifCond .ne 9, 3) := by decide +kernel
theorem dX10_item_77 : decode cX10_item 77 = .ok (.iload 4, 2) := by decide +kernel
theorem dX10_item_79 : decode cX10_item 79 = .ok (.i2b, 1) := by decide +kernel
theorem dX10_item_80 : decode cX10_item 80 = .ok (.goto 16, 3) := by decide +kernel
theorem dX10_item_83 : decode cX10_item 83 = .ok (.iload_n 2, 1) := by decide +kernel
theorem dX10_item_84 : decode cX10_item 84 = .ok (.iconst 1, 1) := by decide +kernel
theorem dX10_item_85 : decode cX10_item 85 = .ok (.if_icmp .ne 9, 3) := by decide +kernel
theorem dX10_item_88 : decode cX10_item 88 = .ok (.iload 4, 2) := by decide +kernel
theorem dX10_item_90 : decode cX10_item 90 = .ok (.i2s, 1) := by decide +kernel
theorem dX10_item_91 : decode cX10_item 91 = .ok (.goto 5, 3) := by decide +kernel
theorem dX10_item_94 : decode cX10_item 94 = .ok (.iload 4, 2) := by decide +kernel
theorem dX10_item_96 : decode cX10_item 96 = .ok (.iastore, 1) := by decide +kernel
theorem dX10_item_97 : decode cX10_item 97 = .ok (.iconst 1, 1) := by decide +kernel
theorem dX10_item_98 : decode cX10_item 98 = .ok (.ireturn, 1) := by decide +kernel
theorem dX10_isWithin_0 : decode cX10_isWithin 0 = .ok (.iload_n 2, 1) := by decide +kernel
theorem dX10_isWithin_1 : decode cX10_isWithin 1 = .ok (.ifCond .lt 23, 3) := by decide +kernel
theorem dX10_isWithin_4 : decode cX10_isWithin 4 = .ok (.iload_n 2, 1) := by decide +kernel
theorem dX10_isWithin_5 : decode cX10_isWithin 5 = .ok (.i2l, 1) := by decide +kernel
theorem dX10_isWithin_6 : decode cX10_isWithin 6 = .ok (.iload_n 3, 1) := by decide +kernel
theorem dX10_isWithin_7 : decode cX10_isWithin 7 = .ok (.i2l, 1) := by decide +kernel
theorem dX10_isWithin_8 : decode cX10_isWithin 8 = .ok (.ladd, 1) := by decide +kernel
theorem dX10_isWithin_9 : decode cX10_isWithin 9 = .ok (.aload_n 0, 1) := by decide +kernel
theorem dX10_isWithin_10 : decode cX10_isWithin 10 = .ok (.getfield 44, 3) := by decide +kernel
theorem dX10_isWithin_13 : decode cX10_isWithin 13 = .ok (.iload_n 1, 1) := by decide +kernel
theorem dX10_isWithin_14 : decode cX10_isWithin 14 = .ok (.iaload, 1) := by decide +kernel
theorem dX10_isWithin_15 : decode cX10_isWithin 15 = .ok (.i2l, 1) := by decide +kernel
theorem dX10_isWithin_16 : decode cX10_isWithin 16 = .ok (.lcmp, 1) := by decide +kernel
theorem dX10_isWithin_17 : decode cX10_isWithin 17 = .ok (.ifCond .gt 7, 3) := by decide +kernel
theorem dX10_isWithin_20 : decode cX10_isWithin 20 = .ok (.iconst 1, 1) := by decide +kernel
theorem dX10_isWithin_21 : decode cX10_isWithin 21 = .ok (.goto 4, 3) := by decide +kernel
theorem dX10_isWithin_24 : decode cX10_isWithin 24 = .ok (.iconst 0, 1) := by decide +kernel
theorem dX10_isWithin_25 : decode cX10_isWithin 25 = .ok (.ireturn, 1) := by decide +kernel
theorem dX10_copy_0 : decode cX10_copy 0 = .ok (.iload_n 1, 1) := by decide +kernel
theorem dX10_copy_1 : decode cX10_copy 1 = .ok (.invokestatic 135, 3) := by decide +kernel
theorem dX10_copy_4 : decode cX10_copy 4 = .ok (.ifCond .eq 10, 3) := by decide +kernel
theorem dX10_copy_7 : decode cX10_copy 7 = .ok (.iload_n 3, 1) := by decide +kernel
theorem dX10_copy_8 : decode cX10_copy 8 = .ok (.invokestatic 135, 3) := by decide +kernel
theorem dX10_copy_11 : decode cX10_copy 11 = .ok (.ifCond .ne 5, 3) := by decide +kernel
theorem dX10_copy_14 : decode cX10_copy 14 = .ok (.iconst (-1), 1) := by decide +kernel
theorem dX10_copy_15 : decode cX10_copy 15 = .ok (.ireturn, 1) := by decide +kernel
theorem dX10_copy_16 : decode cX10_copy 16 = .ok (.aload_n 0, 1) := by decide +kernel
theorem dX10_copy_17 : decode cX10_copy 17 = .ok (.getfield 41, 3) := by decide +kernel
theorem dX10_copy_20 : decode cX10_copy 20 = .ok (.iload_n 1, 1) := by decide +kernel
theorem dX10_copy_21 : decode cX10_copy 21 = .ok (.iaload, 1) := by decide +kernel
theorem dX10_copy_22 : decode cX10_copy 22 = .ok (.ifCond .lt 12, 3) := by decide +kernel
theorem dX10_copy_25 : decode cX10_copy 25 = .ok (.aload_n 0, 1) := by decide +kernel
theorem dX10_copy_26 : decode cX10_copy 26 = .ok (.getfield 41, 3) := by decide +kernel
theorem dX10_copy_29 : decode cX10_copy 29 = .ok (.iload_n 3, 1) := by decide +kernel
theorem dX10_copy_30 : decode cX10_copy 30 = .ok (.iaload, 1) := by decide +kernel
theorem dX10_copy_31 : decode cX10_copy 31 = .ok (.ifCond .ge 6, 3) := by decide +kernel
theorem dX10_copy_34 : decode cX10_copy 34 = .ok (.bipush (-11), 2) := by decide +kernel
theorem dX10_copy_36 : decode cX10_copy 36 = .ok (.ireturn, 1) := by decide +kernel
theorem dX10_copy_37 : decode cX10_copy 37 = .ok (.aload_n 0, 1) := by decide +kernel
theorem dX10_copy_38 : decode cX10_copy 38 = .ok (.getfield 41, 3) := by decide +kernel
theorem dX10_copy_41 : decode cX10_copy 41 = .ok (.iload_n 1, 1) := by decide +kernel
theorem dX10_copy_42 : decode cX10_copy 42 = .ok (.iaload, 1) := by decide +kernel
theorem dX10_copy_43 : decode cX10_copy 43 = .ok (.aload_n 0, 1) := by decide +kernel
theorem dX10_copy_44 : decode cX10_copy 44 = .ok (.getfield 41, 3) := by decide +kernel
theorem dX10_copy_47 : decode cX10_copy 47 = .ok (.iload_n 3, 1) := by decide +kernel
theorem dX10_copy_48 : decode cX10_copy 48 = .ok (.iaload, 1) := by decide +kernel
theorem dX10_copy_49 : decode cX10_copy 49 = .ok (.if_icmp .eq 6, 3) := by decide +kernel
theorem dX10_copy_52 : decode cX10_copy 52 = .ok (.bipush (-12), 2) := by decide +kernel
theorem dX10_copy_54 : decode cX10_copy 54 = .ok (.ireturn, 1) := by decide +kernel
theorem dX10_copy_55 : decode cX10_copy 55 = .ok (.iload 5, 2) := by decide +kernel
theorem dX10_copy_57 : decode cX10_copy 57 = .ok (.ifCond .lt 26, 3) := by decide +kernel
theorem dX10_copy_60 : decode cX10_copy 60 = .ok (.aload_n 0, 1) := by decide +kernel
theorem dX10_copy_61 : decode cX10_copy 61 = .ok (.iload_n 1, 1) := by decide +kernel
theorem dX10_copy_62 : decode cX10_copy 62 = .ok (.iload_n 2, 1) := by decide +kernel
theorem dX10_copy_63 : decode cX10_copy 63 = .ok (.iload 5, 2) := by decide +kernel
theorem dX10_copy_65 : decode cX10_copy 65 = .ok (.invokevirtual 138, 3) := by decide +kernel
theorem dX10_copy_68 : decode cX10_copy 68 = .ok (.ifCond .eq 15, 3) := by decide +kernel
theorem dX10_copy_71 : decode cX10_copy 71 = .ok (.aload_n 0, 1) := by decide +kernel
theorem dX10_copy_72 : decode cX10_copy 72 = .ok (.iload_n 3, 1) := by decide +kernel
theorem dX10_copy_73 : decode cX10_copy 73 = .ok (.iload 4, 2) := by decide +kernel
theorem dX10_copy_75 : decode cX10_copy 75 = .ok (.iload 5, 2) := by decide +kernel
theorem dX10_copy_77 : decode cX10_copy 77 = .ok (.invokevirtual 138, 3) := by decide +kernel
theorem dX10_copy_80 : decode cX10_copy 80 = .ok (.ifCond .ne 6, 3) := by decide +kernel
theorem dX10_copy_83 : decode cX10_copy 83 = .ok (.bipush (-13), 2) := by decide +kernel
theorem dX10_copy_85 : decode cX10_copy 85 = .ok (.ireturn, 1) := by decide +kernel
theorem dX10_copy_86 : decode cX10_copy 86 = .ok (.iconst 0, 1) := by decide +kernel
theorem dX10_copy_87 : decode cX10_copy 87 = .ok (.istore 6, 2) := by decide +kernel
theorem dX10_copy_89 : decode cX10_copy 89 = .ok (.iload 6, 2) := by decide +kernel
theorem dX10_copy_91 : decode cX10_copy 91 = .ok (.iload 5, 2) := by decide +kernel
theorem dX10_copy_93 : decode cX10_copy 93 = .ok (.if_icmp .ge 31, 3) := by decide +kernel
theorem dX10_copy_96 : decode cX10_copy 96 = .ok (.aload_n 0, 1) := by decide +kernel
theorem dX10_copy_97 : decode cX10_copy 97 = .ok (.getfield 50, 3) := by decide +kernel
theorem dX10_copy_100 : decode cX10_copy 100 = .ok (.iload 6, 2) := by decide +kernel
theorem dX10_copy_102 : decode cX10_copy 102 = .ok (.aload_n 0, 1) := by decide +kernel
theorem dX10_copy_103 : decode cX10_copy 103 = .ok (.getfield 47, 3) := by decide +kernel
theorem dX10_copy_106 : decode cX10_copy 106 = .ok (.sipush 160, 3) := by decide +kernel
theorem dX10_copy_109 : decode cX10_copy 109 = .ok (.iload_n 1, 1) := by decide +kernel
theorem dX10_copy_110 : decode cX10_copy 110 = .ok (.imul, 1) := by decide +kernel
theorem dX10_copy_111 : decode cX10_copy 111 = .ok (.iload_n 2, 1) := by decide +kernel
theorem dX10_copy_112 : decode cX10_copy 112 = .ok (.iadd, 1) := by decide +kernel
theorem dX10_copy_113 : decode cX10_copy 113 = .ok (.iload 6, 2) := by decide +kernel
theorem dX10_copy_115 : decode cX10_copy 115 = .ok (.iadd, 1) := by decide +kernel
theorem dX10_copy_116 : decode cX10_copy 116 = .ok (.iaload, 1) := by decide +kernel
theorem dX10_copy_117 : decode cX10_copy 117 = .ok (.iastore, 1) := by decide +kernel
theorem dX10_copy_118 : decode cX10_copy 118 = .ok (.iinc 6 1, 3) := by decide +kernel
theorem dX10_copy_121 : decode cX10_copy 121 = .ok (.goto (-32), 3) := by decide +kernel
theorem dX10_copy_124 : decode cX10_copy 124 = .ok (.iconst 0, 1) := by decide +kernel
theorem dX10_copy_125 : decode cX10_copy 125 = .ok (.istore 6, 2) := by decide +kernel
theorem dX10_copy_127 : decode cX10_copy 127 = .ok (.iload 6, 2) := by decide +kernel
theorem dX10_copy_129 : decode cX10_copy 129 = .ok (.iload 5, 2) := by decide +kernel
theorem dX10_copy_131 : decode cX10_copy 131 = .ok (.if_icmp .ge 32, 3) := by decide +kernel
theorem dX10_copy_134 : decode cX10_copy 134 = .ok (.aload_n 0, 1) := by decide +kernel
theorem dX10_copy_135 : decode cX10_copy 135 = .ok (.getfield 47, 3) := by decide +kernel
theorem dX10_copy_138 : decode cX10_copy 138 = .ok (.sipush 160, 3) := by decide +kernel
theorem dX10_copy_141 : decode cX10_copy 141 = .ok (.iload_n 3, 1) := by decide +kernel
theorem dX10_copy_142 : decode cX10_copy 142 = .ok (.imul, 1) := by decide +kernel
theorem dX10_copy_143 : decode cX10_copy 143 = .ok (.iload 4, 2) := by decide +kernel
theorem dX10_copy_145 : decode cX10_copy 145 = .ok (.iadd, 1) := by decide +kernel
theorem dX10_copy_146 : decode cX10_copy 146 = .ok (.iload 6, 2) := by decide +kernel
theorem dX10_copy_148 : decode cX10_copy 148 = .ok (.iadd, 1) := by decide +kernel
theorem dX10_copy_149 : decode cX10_copy 149 = .ok (.aload_n 0, 1) := by decide +kernel
theorem dX10_copy_150 : decode cX10_copy 150 = .ok (.getfield 50, 3) := by decide +kernel
theorem dX10_copy_153 : decode cX10_copy 153 = .ok (.iload 6, 2) := by decide +kernel
theorem dX10_copy_155 : decode cX10_copy 155 = .ok (.iaload, 1) := by decide +kernel
theorem dX10_copy_156 : decode cX10_copy 156 = .ok (.iastore, 1) := by decide +kernel
theorem dX10_copy_157 : decode cX10_copy 157 = .ok (.iinc 6 1, 3) := by decide +kernel
theorem dX10_copy_160 : decode cX10_copy 160 = .ok (.goto (-33), 3) := by decide +kernel
theorem dX10_copy_163 : decode cX10_copy 163 = .ok (.iload 5, 2) := by decide +kernel
theorem dX10_copy_165 : decode cX10_copy 165 = .ok (.ireturn, 1) := by decide +kernel
theorem dX10_isRow_0 : decode cX10_isRow 0 = .ok (.iload_n 0, 1) := by decide +kernel
theorem dX10_isRow_1 : decode cX10_isRow 1 = .ok (.iconst 0, 1) := by decide +kernel
theorem dX10_isRow_2 : decode cX10_isRow 2 = .ok (.iconst 3, 1) := by decide +kernel
theorem dX10_isRow_3 : decode cX10_isRow 3 = .ok (.invokestatic 123, 3) := by decide +kernel
theorem dX10_isRow_6 : decode cX10_isRow 6 = .ok (.ireturn, 1) := by decide +kernel
theorem dX10_letters_0 : decode cX10_letters 0 = .ok (.iload_n 1, 1) := by decide +kernel
theorem dX10_letters_1 : decode cX10_letters 1 = .ok (.invokestatic 141, 3) := by decide +kernel
theorem dX10_letters_4 : decode cX10_letters 4 = .ok (.ifCond .eq 30, 3) := by decide +kernel
theorem dX10_letters_7 : decode cX10_letters 7 = .ok (.iload_n 2, 1) := by decide +kernel
theorem dX10_letters_8 : decode cX10_letters 8 = .ok (.invokestatic 135, 3) := by decide +kernel
theorem dX10_letters_11 : decode cX10_letters 11 = .ok (.ifCond .eq 23, 3) := by decide +kernel
theorem dX10_letters_14 : decode cX10_letters 14 = .ok (.iload_n 3, 1) := by decide +kernel
theorem dX10_letters_15 : decode cX10_letters 15 = .ok (.iconst 0, 1) := by decide +kernel
theorem dX10_letters_16 : decode cX10_letters 16 = .ok (.iconst 2, 1) := by decide +kernel
theorem dX10_letters_17 : decode cX10_letters 17 = .ok (.invokestatic 123, 3) := by decide +kernel
theorem dX10_letters_20 : decode cX10_letters 20 = .ok (.ifCond .eq 14, 3) := by decide +kernel
theorem dX10_letters_23 : decode cX10_letters 23 = .ok (.iload 5, 2) := by decide +kernel
theorem dX10_letters_25 : decode cX10_letters 25 = .ok (.iconst 0, 1) := by decide +kernel
theorem dX10_letters_26 : decode cX10_letters 26 = .ok (.bipush 80, 2) := by decide +kernel
theorem dX10_letters_28 : decode cX10_letters 28 = .ok (.invokestatic 123, 3) := by decide +kernel
theorem dX10_letters_31 : decode cX10_letters 31 = .ok (.ifCond .ne 5, 3) := by decide +kernel
theorem dX10_letters_34 : decode cX10_letters 34 = .ok (.iconst (-1), 1) := by decide +kernel
theorem dX10_letters_35 : decode cX10_letters 35 = .ok (.ireturn, 1) := by decide +kernel
theorem dX10_letters_36 : decode cX10_letters 36 = .ok (.aload_n 0, 1) := by decide +kernel
theorem dX10_letters_37 : decode cX10_letters 37 = .ok (.getfield 41, 3) := by decide +kernel
theorem dX10_letters_40 : decode cX10_letters 40 = .ok (.iload_n 2, 1) := by decide +kernel
theorem dX10_letters_41 : decode cX10_letters 41 = .ok (.iaload, 1) := by decide +kernel
theorem dX10_letters_42 : decode cX10_letters 42 = .ok (.ifCond .ge 6, 3) := by decide +kernel
theorem dX10_letters_45 : decode cX10_letters 45 = .ok (.bipush (-11), 2) := by decide +kernel
theorem dX10_letters_47 : decode cX10_letters 47 = .ok (.ireturn, 1) := by decide +kernel
theorem dX10_letters_48 : decode cX10_letters 48 = .ok (.aload_n 0, 1) := by decide +kernel
theorem dX10_letters_49 : decode cX10_letters 49 = .ok (.getfield 41, 3) := by decide +kernel
theorem dX10_letters_52 : decode cX10_letters 52 = .ok (.iload_n 2, 1) := by decide +kernel
theorem dX10_letters_53 : decode cX10_letters 53 = .ok (.iaload, 1) := by decide +kernel
theorem dX10_letters_54 : decode cX10_letters 54 = .ok (.iload_n 3, 1) := by decide +kernel
theorem dX10_letters_55 : decode cX10_letters 55 = .ok (.if_icmp .eq 6, 3) := by decide +kernel
theorem dX10_letters_58 : decode cX10_letters 58 = .ok (.bipush (-12), 2) := by decide +kernel
theorem dX10_letters_60 : decode cX10_letters 60 = .ok (.ireturn, 1) := by decide +kernel
theorem dX10_letters_61 : decode cX10_letters 61 = .ok (.aload_n 0, 1) := by decide +kernel
theorem dX10_letters_62 : decode cX10_letters 62 = .ok (.iload_n 2, 1) := by decide +kernel
theorem dX10_letters_63 : decode cX10_letters 63 = .ok (.iload 4, 2) := by decide +kernel
theorem dX10_letters_65 : decode cX10_letters 65 = .ok (.iconst 2, 1) := by decide +kernel
theorem dX10_letters_66 : decode cX10_letters 66 = .ok (.iload 5, 2) := by decide +kernel
theorem dX10_letters_68 : decode cX10_letters 68 = .ok (.imul, 1) := by decide +kernel
theorem dX10_letters_69 : decode cX10_letters 69 = .ok (.invokevirtual 138, 3) := by decide +kernel
theorem dX10_letters_72 : decode cX10_letters 72 = .ok (.ifCond .ne 6, 3) := by decide +kernel
theorem dX10_letters_75 : decode cX10_letters 75 = .ok (.bipush (-13), 2) := by decide +kernel
theorem dX10_letters_77 : decode cX10_letters 77 = .ok (.ireturn, 1) := by decide +kernel
theorem dX10_letters_78 : decode cX10_letters 78 = .ok (.aload_n 0, 1) := by decide +kernel
theorem dX10_letters_79 : decode cX10_letters 79 = .ok (.getfield 53, 3) := by decide +kernel
end
section
theorem dX10_letters_82 : decode cX10_letters 82 = .ok (.iload_n 1, 1) := by decide +kernel
theorem dX10_letters_83 : decode cX10_letters 83 = .ok (.iaload, 1) := by decide +kernel
theorem dX10_letters_84 : decode cX10_letters 84 = .ok (.ifCond .ne 7, 3) := by decide +kernel
theorem dX10_letters_87 : decode cX10_letters 87 = .ok (.iconst 0, 1) := by decide +kernel
theorem dX10_letters_88 : decode cX10_letters 88 = .ok (.goto 21, 3) := by decide +kernel
theorem dX10_letters_91 : decode cX10_letters 91 = .ok (.aload_n 0, 1) := by decide +kernel
theorem dX10_letters_92 : decode cX10_letters 92 = .ok (.getfield 56, 3) := by decide +kernel
theorem dX10_letters_95 : decode cX10_letters 95 = .ok (.bipush 80, 2) := by decide +kernel
theorem dX10_letters_97 : decode cX10_letters 97 = .ok (.iload_n 1, 1) := by decide +kernel
theorem dX10_letters_98 : decode cX10_letters 98 = .ok (.imul, 1) := by decide +kernel
theorem dX10_letters_99 : decode cX10_letters 99 = .ok (.aload_n 0, 1) := by decide +kernel
theorem dX10_letters_100 : decode cX10_letters 100 = .ok (.getfield 53, 3) := by decide +kernel
theorem dX10_letters_103 : decode cX10_letters 103 = .ok (.iload_n 1, 1) := by decide +kernel
theorem dX10_letters_104 : decode cX10_letters 104 = .ok (.iaload, 1) := by decide +kernel
theorem dX10_letters_105 : decode cX10_letters 105 = .ok (.iadd, 1) := by decide +kernel
theorem dX10_letters_106 : decode cX10_letters 106 = .ok (.iconst 1, 1) := by decide +kernel
theorem dX10_letters_107 : decode cX10_letters 107 = .ok (.isub, 1) := by decide +kernel
theorem dX10_letters_108 : decode cX10_letters 108 = .ok (.iaload, 1) := by decide +kernel
theorem dX10_letters_109 : decode cX10_letters 109 = .ok (.istore 6, 2) := by decide +kernel
theorem dX10_letters_111 : decode cX10_letters 111 = .ok (.iconst 0, 1) := by decide +kernel
theorem dX10_letters_112 : decode cX10_letters 112 = .ok (.istore 7, 2) := by decide +kernel
theorem dX10_letters_114 : decode cX10_letters 114 = .ok (.iload 7, 2) := by decide +kernel
theorem dX10_letters_116 : decode cX10_letters 116 = .ok (.iload 5, 2) := by decide +kernel
theorem dX10_letters_118 : decode cX10_letters 118 = .ok (.if_icmp .ge 75, 3) := by decide +kernel
theorem dX10_letters_121 : decode cX10_letters 121 = .ok (.aload_n 0, 1) := by decide +kernel
theorem dX10_letters_122 : decode cX10_letters 122 = .ok (.getfield 47, 3) := by decide +kernel
theorem dX10_letters_125 : decode cX10_letters 125 = .ok (.sipush 160, 3) := by decide +kernel
theorem dX10_letters_128 : decode cX10_letters 128 = .ok (.iload_n 2, 1) := by decide +kernel
theorem dX10_letters_129 : decode cX10_letters 129 = .ok (.imul, 1) := by decide +kernel
theorem dX10_letters_130 : decode cX10_letters 130 = .ok (.iload 4, 2) := by decide +kernel
theorem dX10_letters_132 : decode cX10_letters 132 = .ok (.iadd, 1) := by decide +kernel
theorem dX10_letters_133 : decode cX10_letters 133 = .ok (.iconst 2, 1) := by decide +kernel
theorem dX10_letters_134 : decode cX10_letters 134 = .ok (.iload 7, 2) := by decide +kernel
theorem dX10_letters_136 : decode cX10_letters 136 = .ok (.imul, 1) := by decide +kernel
theorem dX10_letters_137 : decode cX10_letters 137 = .ok (.iadd, 1) := by decide +kernel
theorem dX10_letters_138 : decode cX10_letters 138 = .ok (.iaload, 1) := by decide +kernel
theorem dX10_letters_139 : decode cX10_letters 139 = .ok (.istore 8, 2) := by decide +kernel
theorem dX10_letters_141 : decode cX10_letters 141 = .ok (.iload 8, 2) := by decide +kernel
theorem dX10_letters_143 : decode cX10_letters 143 = .ok (.iload 6, 2) := by decide +kernel
theorem dX10_letters_145 : decode cX10_letters 145 = .ok (.bipush 39, 2) := by decide +kernel
theorem dX10_letters_147 : decode cX10_letters 147 = .ok (.invokestatic 123, 3) := by decide +kernel
theorem dX10_letters_150 : decode cX10_letters 150 = .ok (.ifCond .eq 30, 3) := by decide +kernel
theorem dX10_letters_153 : decode cX10_letters 153 = .ok (.aload_n 0, 1) := by decide +kernel
theorem dX10_letters_154 : decode cX10_letters 154 = .ok (.aload_n 0, 1) := by decide +kernel
theorem dX10_letters_155 : decode cX10_letters 155 = .ok (.getfield 47, 3) := by decide +kernel
theorem dX10_letters_158 : decode cX10_letters 158 = .ok (.sipush 160, 3) := by decide +kernel
theorem dX10_letters_161 : decode cX10_letters 161 = .ok (.iload_n 2, 1) := by decide +kernel
theorem dX10_letters_162 : decode cX10_letters 162 = .ok (.imul, 1) := by decide +kernel
theorem dX10_letters_163 : decode cX10_letters 163 = .ok (.iload 4, 2) := by decide +kernel
theorem dX10_letters_165 : decode cX10_letters 165 = .ok (.iadd, 1) := by decide +kernel
theorem dX10_letters_166 : decode cX10_letters 166 = .ok (.iconst 2, 1) := by decide +kernel
theorem dX10_letters_167 : decode cX10_letters 167 = .ok (.iload 7, 2) := by decide +kernel
theorem dX10_letters_169 : decode cX10_letters 169 = .ok (.imul, 1) := by decide +kernel
theorem dX10_letters_170 : decode cX10_letters 170 = .ok (.iadd, 1) := by decide +kernel
theorem dX10_letters_171 : decode cX10_letters 171 = .ok (.iconst 1, 1) := by decide +kernel
theorem dX10_letters_172 : decode cX10_letters 172 = .ok (.iadd, 1) := by decide +kernel
theorem dX10_letters_173 : decode cX10_letters 173 = .ok (.iaload, 1) := by decide +kernel
theorem dX10_letters_174 : decode cX10_letters 174 = .ok (.invokevirtual 131, 3) := by decide +kernel
theorem dX10_letters_177 : decode cX10_letters 177 = .ok (.ifCond .ne 6, 3) := by decide +kernel
theorem dX10_letters_180 : decode cX10_letters 180 = .ok (.bipush (-2), 2) := by decide +kernel
theorem dX10_letters_182 : decode cX10_letters 182 = .ok (.ireturn, 1) := by decide +kernel
theorem dX10_letters_183 : decode cX10_letters 183 = .ok (.iload 8, 2) := by decide +kernel
theorem dX10_letters_185 : decode cX10_letters 185 = .ok (.istore 6, 2) := by decide +kernel
theorem dX10_letters_187 : decode cX10_letters 187 = .ok (.iinc 7 1, 3) := by decide +kernel
theorem dX10_letters_190 : decode cX10_letters 190 = .ok (.goto (-76), 3) := by decide +kernel
theorem dX10_letters_193 : decode cX10_letters 193 = .ok (.aload_n 0, 1) := by decide +kernel
theorem dX10_letters_194 : decode cX10_letters 194 = .ok (.getfield 53, 3) := by decide +kernel
theorem dX10_letters_197 : decode cX10_letters 197 = .ok (.iload_n 1, 1) := by decide +kernel
theorem dX10_letters_198 : decode cX10_letters 198 = .ok (.iaload, 1) := by decide +kernel
theorem dX10_letters_199 : decode cX10_letters 199 = .ok (.iload 5, 2) := by decide +kernel
theorem dX10_letters_201 : decode cX10_letters 201 = .ok (.iadd, 1) := by decide +kernel
theorem dX10_letters_202 : decode cX10_letters 202 = .ok (.bipush 80, 2) := by decide +kernel
theorem dX10_letters_204 : decode cX10_letters 204 = .ok (.if_icmp .le 6, 3) := by decide +kernel
theorem dX10_letters_207 : decode cX10_letters 207 = .ok (.bipush (-3), 2) := by decide +kernel
theorem dX10_letters_209 : decode cX10_letters 209 = .ok (.ireturn, 1) := by decide +kernel
theorem dX10_letters_210 : decode cX10_letters 210 = .ok (.iconst 0, 1) := by decide +kernel
theorem dX10_letters_211 : decode cX10_letters 211 = .ok (.istore 7, 2) := by decide +kernel
theorem dX10_letters_213 : decode cX10_letters 213 = .ok (.iload 7, 2) := by decide +kernel
theorem dX10_letters_215 : decode cX10_letters 215 = .ok (.iload 5, 2) := by decide +kernel
theorem dX10_letters_217 : decode cX10_letters 217 = .ok (.if_icmp .ge 89, 3) := by decide +kernel
theorem dX10_letters_220 : decode cX10_letters 220 = .ok (.aload_n 0, 1) := by decide +kernel
theorem dX10_letters_221 : decode cX10_letters 221 = .ok (.getfield 56, 3) := by decide +kernel
theorem dX10_letters_224 : decode cX10_letters 224 = .ok (.bipush 80, 2) := by decide +kernel
theorem dX10_letters_226 : decode cX10_letters 226 = .ok (.iload_n 1, 1) := by decide +kernel
theorem dX10_letters_227 : decode cX10_letters 227 = .ok (.imul, 1) := by decide +kernel
theorem dX10_letters_228 : decode cX10_letters 228 = .ok (.aload_n 0, 1) := by decide +kernel
theorem dX10_letters_229 : decode cX10_letters 229 = .ok (.getfield 53, 3) := by decide +kernel
theorem dX10_letters_232 : decode cX10_letters 232 = .ok (.iload_n 1, 1) := by decide +kernel
theorem dX10_letters_233 : decode cX10_letters 233 = .ok (.iaload, 1) := by decide +kernel
theorem dX10_letters_234 : decode cX10_letters 234 = .ok (.iadd, 1) := by decide +kernel
theorem dX10_letters_235 : decode cX10_letters 235 = .ok (.aload_n 0, 1) := by decide +kernel
theorem dX10_letters_236 : decode cX10_letters 236 = .ok (.getfield 47, 3) := by decide +kernel
theorem dX10_letters_239 : decode cX10_letters 239 = .ok (.sipush 160, 3) := by decide +kernel
theorem dX10_letters_242 : decode cX10_letters 242 = .ok (.iload_n 2, 1) := by decide +kernel
theorem dX10_letters_243 : decode cX10_letters 243 = .ok (.imul, 1) := by decide +kernel
theorem dX10_letters_244 : decode cX10_letters 244 = .ok (.iload 4, 2) := by decide +kernel
theorem dX10_letters_246 : decode cX10_letters 246 = .ok (.iadd, 1) := by decide +kernel
theorem dX10_letters_247 : decode cX10_letters 247 = .ok (.iconst 2, 1) := by decide +kernel
theorem dX10_letters_248 : decode cX10_letters 248 = .ok (.iload 7, 2) := by decide +kernel
theorem dX10_letters_250 : decode cX10_letters 250 = .ok (.imul, 1) := by decide +kernel
theorem dX10_letters_251 : decode cX10_letters 251 = .ok (.iadd, 1) := by decide +kernel
theorem dX10_letters_252 : decode cX10_letters 252 = .ok (.iaload, 1) := by decide +kernel
theorem dX10_letters_253 : decode cX10_letters 253 = .ok (.iastore, 1) := by decide +kernel
theorem dX10_letters_254 : decode cX10_letters 254 = .ok (.aload_n 0, 1) := by decide +kernel
theorem dX10_letters_255 : decode cX10_letters 255 = .ok (.getfield 59, 3) := by decide +kernel
theorem dX10_letters_258 : decode cX10_letters 258 = .ok (.bipush 80, 2) := by decide +kernel
theorem dX10_letters_260 : decode cX10_letters 260 = .ok (.iload_n 1, 1) := by decide +kernel
theorem dX10_letters_261 : decode cX10_letters 261 = .ok (.imul, 1) := by decide +kernel
theorem dX10_letters_262 : decode cX10_letters 262 = .ok (.aload_n 0, 1) := by decide +kernel
theorem dX10_letters_263 : decode cX10_letters 263 = .ok (.getfield 53, 3) := by decide +kernel
theorem dX10_letters_266 : decode cX10_letters 266 = .ok (.iload_n 1, 1) := by decide +kernel
theorem dX10_letters_267 : decode cX10_letters 267 = .ok (.iaload, 1) := by decide +kernel
theorem dX10_letters_268 : decode cX10_letters 268 = .ok (.iadd, 1) := by decide +kernel
theorem dX10_letters_269 : decode cX10_letters 269 = .ok (.aload_n 0, 1) := by decide +kernel
theorem dX10_letters_270 : decode cX10_letters 270 = .ok (.getfield 47, 3) := by decide +kernel
theorem dX10_letters_273 : decode cX10_letters 273 = .ok (.sipush 160, 3) := by decide +kernel
theorem dX10_letters_276 : decode cX10_letters 276 = .ok (.iload_n 2, 1) := by decide +kernel
theorem dX10_letters_277 : decode cX10_letters 277 = .ok (.imul, 1) := by decide +kernel
theorem dX10_letters_278 : decode cX10_letters 278 = .ok (.iload 4, 2) := by decide +kernel
theorem dX10_letters_280 : decode cX10_letters 280 = .ok (.iadd, 1) := by decide +kernel
theorem dX10_letters_281 : decode cX10_letters 281 = .ok (.iconst 2, 1) := by decide +kernel
theorem dX10_letters_282 : decode cX10_letters 282 = .ok (.iload 7, 2) := by decide +kernel
theorem dX10_letters_284 : decode cX10_letters 284 = .ok (.imul, 1) := by decide +kernel
theorem dX10_letters_285 : decode cX10_letters 285 = .ok (.iadd, 1) := by decide +kernel
theorem dX10_letters_286 : decode cX10_letters 286 = .ok (.iconst 1, 1) := by decide +kernel
theorem dX10_letters_287 : decode cX10_letters 287 = .ok (.iadd, 1) := by decide +kernel
theorem dX10_letters_288 : decode cX10_letters 288 = .ok (.iaload, 1) := by decide +kernel
theorem dX10_letters_289 : decode cX10_letters 289 = .ok (.iastore, 1) := by decide +kernel
theorem dX10_letters_290 : decode cX10_letters 290 = .ok (.aload_n 0, 1) := by decide +kernel
theorem dX10_letters_291 : decode cX10_letters 291 = .ok (.getfield 53, 3) := by decide +kernel
theorem dX10_letters_294 : decode cX10_letters 294 = .ok (.iload_n 1, 1) := by decide +kernel
theorem dX10_letters_295 : decode cX10_letters 295 = .ok (.dup2, 1) := by decide +kernel
theorem dX10_letters_296 : decode cX10_letters 296 = .ok (.iaload, 1) := by decide +kernel
theorem dX10_letters_297 : decode cX10_letters 297 = .ok (.iconst 1, 1) := by decide +kernel
theorem dX10_letters_298 : decode cX10_letters 298 = .ok (.iadd, 1) := by decide +kernel
theorem dX10_letters_299 : decode cX10_letters 299 = .ok (.iastore, 1) := by decide +kernel
theorem dX10_letters_300 : decode cX10_letters 300 = .ok (.iinc 7 1, 3) := by decide +kernel
theorem dX10_letters_303 : decode cX10_letters 303 = .ok (.goto (-90), 3) := by decide +kernel
theorem dX10_letters_306 : decode cX10_letters 306 = .ok (.aload_n 0, 1) := by decide +kernel
theorem dX10_letters_307 : decode cX10_letters 307 = .ok (.getfield 53, 3) := by decide +kernel
theorem dX10_letters_310 : decode cX10_letters 310 = .ok (.iload_n 1, 1) := by decide +kernel
theorem dX10_letters_311 : decode cX10_letters 311 = .ok (.iaload, 1) := by decide +kernel
theorem dX10_letters_312 : decode cX10_letters 312 = .ok (.ireturn, 1) := by decide +kernel
theorem dX10_clear_0 : decode cX10_clear 0 = .ok (.iload_n 1, 1) := by decide +kernel
theorem dX10_clear_1 : decode cX10_clear 1 = .ok (.invokestatic 141, 3) := by decide +kernel
theorem dX10_clear_4 : decode cX10_clear 4 = .ok (.ifCond .ne 5, 3) := by decide +kernel
theorem dX10_clear_7 : decode cX10_clear 7 = .ok (.iconst (-1), 1) := by decide +kernel
theorem dX10_clear_8 : decode cX10_clear 8 = .ok (.ireturn, 1) := by decide +kernel
theorem dX10_clear_9 : decode cX10_clear 9 = .ok (.aload_n 0, 1) := by decide +kernel
theorem dX10_clear_10 : decode cX10_clear 10 = .ok (.getfield 53, 3) := by decide +kernel
theorem dX10_clear_13 : decode cX10_clear 13 = .ok (.iload_n 1, 1) := by decide +kernel
theorem dX10_clear_14 : decode cX10_clear 14 = .ok (.iaload, 1) := by decide +kernel
theorem dX10_clear_15 : decode cX10_clear 15 = .ok (.istore_n 2, 1) := by decide +kernel
theorem dX10_clear_16 : decode cX10_clear 16 = .ok (.aload_n 0, 1) := by decide +kernel
theorem dX10_clear_17 : decode cX10_clear 17 = .ok (.getfield 53, 3) := by decide +kernel
theorem dX10_clear_20 : decode cX10_clear 20 = .ok (.iload_n 1, 1) := by decide +kernel
theorem dX10_clear_21 : decode cX10_clear 21 = .ok (.iconst 0, 1) := by decide +kernel
theorem dX10_clear_22 : decode cX10_clear 22 = .ok (.iastore, 1) := by decide +kernel
theorem dX10_clear_23 : decode cX10_clear 23 = .ok (.aload_n 0, 1) := by decide +kernel
theorem dX10_clear_24 : decode cX10_clear 24 = .ok (.getfield 62, 3) := by decide +kernel
theorem dX10_clear_27 : decode cX10_clear 27 = .ok (.iload_n 1, 1) := by decide +kernel
theorem dX10_clear_28 : decode cX10_clear 28 = .ok (.iconst 0, 1) := by decide +kernel
theorem dX10_clear_29 : decode cX10_clear 29 = .ok (.bastore, 1) := by decide +kernel
theorem dX10_clear_30 : decode cX10_clear 30 = .ok (.iload_n 2, 1) := by decide +kernel
theorem dX10_clear_31 : decode cX10_clear 31 = .ok (.ireturn, 1) := by decide +kernel
theorem dX10_letter_0 : decode cX10_letter 0 = .ok (.iload_n 1, 1) := by decide +kernel
theorem dX10_letter_1 : decode cX10_letter 1 = .ok (.invokestatic 141, 3) := by decide +kernel
theorem dX10_letter_4 : decode cX10_letter 4 = .ok (.ifCond .ne 5, 3) := by decide +kernel
theorem dX10_letter_7 : decode cX10_letter 7 = .ok (.iconst (-1), 1) := by decide +kernel
theorem dX10_letter_8 : decode cX10_letter 8 = .ok (.ireturn, 1) := by decide +kernel
theorem dX10_letter_9 : decode cX10_letter 9 = .ok (.iload_n 2, 1) := by decide +kernel
theorem dX10_letter_10 : decode cX10_letter 10 = .ok (.iconst (-1), 1) := by decide +kernel
theorem dX10_letter_11 : decode cX10_letter 11 = .ok (.if_icmp .ne 10, 3) := by decide +kernel
theorem dX10_letter_14 : decode cX10_letter 14 = .ok (.aload_n 0, 1) := by decide +kernel
theorem dX10_letter_15 : decode cX10_letter 15 = .ok (.getfield 53, 3) := by decide +kernel
theorem dX10_letter_18 : decode cX10_letter 18 = .ok (.iload_n 1, 1) := by decide +kernel
theorem dX10_letter_19 : decode cX10_letter 19 = .ok (.iaload, 1) := by decide +kernel
theorem dX10_letter_20 : decode cX10_letter 20 = .ok (.ireturn, 1) := by decide +kernel
theorem dX10_letter_21 : decode cX10_letter 21 = .ok (.iload_n 2, 1) := by decide +kernel
theorem dX10_letter_22 : decode cX10_letter 22 = .ok (.iconst 0, 1) := by decide +kernel
theorem dX10_letter_23 : decode cX10_letter 23 = .ok (.aload_n 0, 1) := by decide +kernel
theorem dX10_letter_24 : decode cX10_letter 24 = .ok (.getfield 53, 3) := by decide +kernel
theorem dX10_letter_27 : decode cX10_letter 27 = .ok (.iload_n 1, 1) := by decide +kernel
theorem dX10_letter_28 : decode cX10_letter 28 = .ok (.iaload, 1) := by decide +kernel
theorem dX10_letter_29 : decode cX10_letter 29 = .ok (.iconst 1, 1) := by decide +kernel
theorem dX10_letter_30 : decode cX10_letter 30 = .ok (.isub, 1) := by decide +kernel
theorem dX10_letter_31 : decode cX10_letter 31 = .ok (.invokestatic 123, 3) := by decide +kernel
theorem dX10_letter_34 : decode cX10_letter 34 = .ok (.ifCond .eq 12, 3) := by decide +kernel
theorem dX10_letter_37 : decode cX10_letter 37 = .ok (.iload_n 3, 1) := by decide +kernel
theorem dX10_letter_38 : decode cX10_letter 38 = .ok (.iconst 0, 1) := by decide +kernel
theorem dX10_letter_39 : decode cX10_letter 39 = .ok (.iconst 1, 1) := by decide +kernel
theorem dX10_letter_40 : decode cX10_letter 40 = .ok (.invokestatic 123, 3) := by decide +kernel
theorem dX10_letter_43 : decode cX10_letter 43 = .ok (.ifCond .ne 5, 3) := by decide +kernel
theorem dX10_letter_46 : decode cX10_letter 46 = .ok (.iconst (-1), 1) := by decide +kernel
theorem dX10_letter_47 : decode cX10_letter 47 = .ok (.ireturn, 1) := by decide +kernel
theorem dX10_letter_48 : decode cX10_letter 48 = .ok (.iload_n 3, 1) := by decide +kernel
theorem dX10_letter_49 : decode cX10_letter 49 = .ok (.ifCond .ne 17, 3) := by decide +kernel
theorem dX10_letter_52 : decode cX10_letter 52 = .ok (.aload_n 0, 1) := by decide +kernel
theorem dX10_letter_53 : decode cX10_letter 53 = .ok (.getfield 56, 3) := by decide +kernel
theorem dX10_letter_56 : decode cX10_letter 56 = .ok (.bipush 80, 2) := by decide +kernel
theorem dX10_letter_58 : decode cX10_letter 58 = .ok (.iload_n 1, 1) := by decide +kernel
theorem dX10_letter_59 : decode cX10_letter 59 = .ok (.imul, 1) := by decide +kernel
theorem dX10_letter_60 : decode cX10_letter 60 = .ok (.iload_n 2, 1) := by decide +kernel
theorem dX10_letter_61 : decode cX10_letter 61 = .ok (.iadd, 1) := by decide +kernel
theorem dX10_letter_62 : decode cX10_letter 62 = .ok (.iaload, 1) := by decide +kernel
theorem dX10_letter_63 : decode cX10_letter 63 = .ok (.goto 14, 3) := by decide +kernel
theorem dX10_letter_66 : decode cX10_letter 66 = .ok (.aload_n 0, 1) := by decide +kernel
theorem dX10_letter_67 : decode cX10_letter 67 = .ok (.getfield 59, 3) := by decide +kernel
theorem dX10_letter_70 : decode cX10_letter 70 = .ok (.bipush 80, 2) := by decide +kernel
theorem dX10_letter_72 : decode cX10_letter 72 = .ok (.iload_n 1, 1) := by decide +kernel
theorem dX10_letter_73 : decode cX10_letter 73 = .ok (.imul, 1) := by decide +kernel
theorem dX10_letter_74 : decode cX10_letter 74 = .ok (.iload_n 2, 1) := by decide +kernel
theorem dX10_letter_75 : decode cX10_letter 75 = .ok (.iadd, 1) := by decide +kernel
theorem dX10_letter_76 : decode cX10_letter 76 = .ok (.iaload, 1) := by decide +kernel
theorem dX10_letter_77 : decode cX10_letter 77 = .ok (.ireturn, 1) := by decide +kernel
theorem dX10_isHeld_0 : decode cX10_isHeld 0 = .ok (.aload_n 0, 1) := by decide +kernel
theorem dX10_isHeld_1 : decode cX10_isHeld 1 = .ok (.getfield 16, 3) := by decide +kernel
theorem dX10_isHeld_4 : decode cX10_isHeld 4 = .ok (.iload_n 1, 1) := by decide +kernel
theorem dX10_isHeld_5 : decode cX10_isHeld 5 = .ok (.iaload, 1) := by decide +kernel
theorem dX10_isHeld_6 : decode cX10_isHeld 6 = .ok (.iconst 2, 1) := by decide +kernel
theorem dX10_isHeld_7 : decode cX10_isHeld 7 = .ok (.if_icmp .ne 14, 3) := by decide +kernel
theorem dX10_isHeld_10 : decode cX10_isHeld 10 = .ok (.aload_n 0, 1) := by decide +kernel
theorem dX10_isHeld_11 : decode cX10_isHeld 11 = .ok (.getfield 144, 3) := by decide +kernel
theorem dX10_isHeld_14 : decode cX10_isHeld 14 = .ok (.ifCond .ne 7, 3) := by decide +kernel
theorem dX10_isHeld_17 : decode cX10_isHeld 17 = .ok (.iconst 1, 1) := by decide +kernel
theorem dX10_isHeld_18 : decode cX10_isHeld 18 = .ok (.goto 4, 3) := by decide +kernel
theorem dX10_isHeld_21 : decode cX10_isHeld 21 = .ok (.iconst 0, 1) := by decide +kernel
theorem dX10_isHeld_22 : decode cX10_isHeld 22 = .ok (.ireturn, 1) := by decide +kernel
theorem dX10_all_0 : decode cX10_all 0 = .ok (.aload_n 0, 1) := by decide +kernel
theorem dX10_all_1 : decode cX10_all 1 = .ok (.getfield 69, 3) := by decide +kernel
theorem dX10_all_4 : decode cX10_all 4 = .ok (.iconst 0, 1) := by decide +kernel
theorem dX10_all_5 : decode cX10_all 5 = .ok (.iaload, 1) := by decide +kernel
theorem dX10_all_6 : decode cX10_all 6 = .ok (.aload_n 0, 1) := by decide +kernel
theorem dX10_all_7 : decode cX10_all 7 = .ok (.getfield 69, 3) := by decide +kernel
theorem dX10_all_10 : decode cX10_all 10 = .ok (.iconst 1, 1) := by decide +kernel
theorem dX10_all_11 : decode cX10_all 11 = .ok (.iaload, 1) := by decide +kernel
theorem dX10_all_12 : decode cX10_all 12 = .ok (.iadd, 1) := by decide +kernel
theorem dX10_all_13 : decode cX10_all 13 = .ok (.aload_n 0, 1) := by decide +kernel
theorem dX10_all_14 : decode cX10_all 14 = .ok (.getfield 69, 3) := by decide +kernel
theorem dX10_all_17 : decode cX10_all 17 = .ok (.iconst 2, 1) := by decide +kernel
theorem dX10_all_18 : decode cX10_all 18 = .ok (.iaload, 1) := by decide +kernel
theorem dX10_all_19 : decode cX10_all 19 = .ok (.iadd, 1) := by decide +kernel
theorem dX10_all_20 : decode cX10_all 20 = .ok (.aload_n 0, 1) := by decide +kernel
theorem dX10_all_21 : decode cX10_all 21 = .ok (.getfield 69, 3) := by decide +kernel
theorem dX10_all_24 : decode cX10_all 24 = .ok (.iconst 3, 1) := by decide +kernel
theorem dX10_all_25 : decode cX10_all 25 = .ok (.iaload, 1) := by decide +kernel
theorem dX10_all_26 : decode cX10_all 26 = .ok (.iadd, 1) := by decide +kernel
theorem dX10_all_27 : decode cX10_all 27 = .ok (.ireturn, 1) := by decide +kernel
theorem dX10_ends_0 : decode cX10_ends 0 = .ok (.aload_n 0, 1) := by decide +kernel
theorem dX10_ends_1 : decode cX10_ends 1 = .ok (.getfield 84, 3) := by decide +kernel
theorem dX10_ends_4 : decode cX10_ends 4 = .ok (.iload_n 1, 1) := by decide +kernel
theorem dX10_ends_5 : decode cX10_ends 5 = .ok (.iload_n 2, 1) := by decide +kernel
theorem dX10_ends_6 : decode cX10_ends 6 = .ok (.iastore, 1) := by decide +kernel
theorem dX10_ends_7 : decode cX10_ends 7 = .ok (.aload_n 0, 1) := by decide +kernel
theorem dX10_ends_8 : decode cX10_ends 8 = .ok (.getfield 87, 3) := by decide +kernel
theorem dX10_ends_11 : decode cX10_ends 11 = .ok (.iload_n 1, 1) := by decide +kernel
theorem dX10_ends_12 : decode cX10_ends 12 = .ok (.aload_n 0, 1) := by decide +kernel
theorem dX10_ends_13 : decode cX10_ends 13 = .ok (.getfield 148, 3) := by decide +kernel
theorem dX10_ends_16 : decode cX10_ends 16 = .ok (.iastore, 1) := by decide +kernel
theorem dX10_ends_17 : decode cX10_ends 17 = .ok (.return_, 1) := by decide +kernel
theorem dX10_counted_0 : decode cX10_counted 0 = .ok (.iconst 0, 1) := by decide +kernel
theorem dX10_counted_1 : decode cX10_counted 1 = .ok (.istore_n 1, 1) := by decide +kernel
theorem dX10_counted_2 : decode cX10_counted 2 = .ok (.iconst 0, 1) := by decide +kernel
theorem dX10_counted_3 : decode cX10_counted 3 = .ok (.istore_n 2, 1) := by decide +kernel
theorem dX10_counted_4 : decode cX10_counted 4 = .ok (.iload_n 2, 1) := by decide +kernel
theorem dX10_counted_5 : decode cX10_counted 5 = .ok (.aload_n 0, 1) := by decide +kernel
theorem dX10_counted_6 : decode cX10_counted 6 = .ok (.getfield 13, 3) := by decide +kernel
theorem dX10_counted_9 : decode cX10_counted 9 = .ok (.if_icmp .ge 61, 3) := by decide +kernel
theorem dX10_counted_12 : decode cX10_counted 12 = .ok (.aload_n 0, 1) := by decide +kernel
theorem dX10_counted_13 : decode cX10_counted 13 = .ok (.getfield 16, 3) := by decide +kernel
theorem dX10_counted_16 : decode cX10_counted 16 = .ok (.iload_n 2, 1) := by decide +kernel
theorem dX10_counted_17 : decode cX10_counted 17 = .ok (.iaload, 1) := by decide +kernel
theorem dX10_counted_18 : decode cX10_counted 18 = .ok (.ifCond .le 22, 3) := by decide +kernel
theorem dX10_counted_21 : decode cX10_counted 21 = .ok (.aload_n 0, 1) := by decide +kernel
theorem dX10_counted_22 : decode cX10_counted 22 = .ok (.getfield 26, 3) := by decide +kernel
theorem dX10_counted_25 : decode cX10_counted 25 = .ok (.iload_n 2, 1) := by decide +kernel
theorem dX10_counted_26 : decode cX10_counted 26 = .ok (.iaload, 1) := by decide +kernel
theorem dX10_counted_27 : decode cX10_counted 27 = .ok (.aload_n 0, 1) := by decide +kernel
theorem dX10_counted_28 : decode cX10_counted 28 = .ok (.getfield 69, 3) := by decide +kernel
theorem dX10_counted_31 : decode cX10_counted 31 = .ok (.iload_n 2, 1) := by decide +kernel
theorem dX10_counted_32 : decode cX10_counted 32 = .ok (.iaload, 1) := by decide +kernel
theorem dX10_counted_33 : decode cX10_counted 33 = .ok (.if_icmp .le 7, 3) := by decide +kernel
theorem dX10_counted_36 : decode cX10_counted 36 = .ok (.iconst 1, 1) := by decide +kernel
theorem dX10_counted_37 : decode cX10_counted 37 = .ok (.goto 4, 3) := by decide +kernel
theorem dX10_counted_40 : decode cX10_counted 40 = .ok (.iconst 0, 1) := by decide +kernel
theorem dX10_counted_41 : decode cX10_counted 41 = .ok (.istore_n 3, 1) := by decide +kernel
theorem dX10_counted_42 : decode cX10_counted 42 = .ok (.iload_n 1, 1) := by decide +kernel
theorem dX10_counted_43 : decode cX10_counted 43 = .ok (.iload_n 3, 1) := by decide +kernel
theorem dX10_counted_44 : decode cX10_counted 44 = .ok (.ifCond .eq 12, 3) := by decide +kernel
theorem dX10_counted_47 : decode cX10_counted 47 = .ok (.aload_n 0, 1) := by decide +kernel
theorem dX10_counted_48 : decode cX10_counted 48 = .ok (.getfield 26, 3) := by decide +kernel
theorem dX10_counted_51 : decode cX10_counted 51 = .ok (.iload_n 2, 1) := by decide +kernel
theorem dX10_counted_52 : decode cX10_counted 52 = .ok (.iaload, 1) := by decide +kernel
theorem dX10_counted_53 : decode cX10_counted 53 = .ok (.goto 9, 3) := by decide +kernel
theorem dX10_counted_56 : decode cX10_counted 56 = .ok (.aload_n 0, 1) := by decide +kernel
theorem dX10_counted_57 : decode cX10_counted 57 = .ok (.getfield 69, 3) := by decide +kernel
theorem dX10_counted_60 : decode cX10_counted 60 = .ok (.iload_n 2, 1) := by decide +kernel
theorem dX10_counted_61 : decode cX10_counted 61 = .ok (.iaload, 1) := by decide +kernel
theorem dX10_counted_62 : decode cX10_counted 62 = .ok (.iadd, 1) := by decide +kernel
theorem dX10_counted_63 : decode cX10_counted 63 = .ok (.istore_n 1, 1) := by decide +kernel
theorem dX10_counted_64 : decode cX10_counted 64 = .ok (.iinc 2 1, 3) := by decide +kernel
theorem dX10_counted_67 : decode cX10_counted 67 = .ok (.goto (-63), 3) := by decide +kernel
theorem dX10_counted_70 : decode cX10_counted 70 = .ok (.iload_n 1, 1) := by decide +kernel
theorem dX10_counted_71 : decode cX10_counted 71 = .ok (.ireturn, 1) := by decide +kernel
theorem dX10_longest_0 : decode cX10_longest 0 = .ok (.iconst 0, 1) := by decide +kernel
theorem dX10_longest_1 : decode cX10_longest 1 = .ok (.istore_n 1, 1) := by decide +kernel
theorem dX10_longest_2 : decode cX10_longest 2 = .ok (.iconst 1, 1) := by decide +kernel
theorem dX10_longest_3 : decode cX10_longest 3 = .ok (.istore_n 2, 1) := by decide +kernel
theorem dX10_longest_4 : decode cX10_longest 4 = .ok (.iload_n 2, 1) := by decide +kernel
theorem dX10_longest_5 : decode cX10_longest 5 = .ok (.aload_n 0, 1) := by decide +kernel
theorem dX10_longest_6 : decode cX10_longest 6 = .ok (.getfield 13, 3) := by decide +kernel
theorem dX10_longest_9 : decode cX10_longest 9 = .ok (.if_icmp .ge 30, 3) := by decide +kernel
theorem dX10_longest_12 : decode cX10_longest 12 = .ok (.aload_n 0, 1) := by decide +kernel
theorem dX10_longest_13 : decode cX10_longest 13 = .ok (.getfield 69, 3) := by decide +kernel
theorem dX10_longest_16 : decode cX10_longest 16 = .ok (.iload_n 2, 1) := by decide +kernel
theorem dX10_longest_17 : decode cX10_longest 17 = .ok (.iaload, 1) := by decide +kernel
theorem dX10_longest_18 : decode cX10_longest 18 = .ok (.aload_n 0, 1) := by decide +kernel
theorem dX10_longest_19 : decode cX10_longest 19 = .ok (.getfield 69, 3) := by decide +kernel
theorem dX10_longest_22 : decode cX10_longest 22 = .ok (.iload_n 1, 1) := by decide +kernel
theorem dX10_longest_23 : decode cX10_longest 23 = .ok (.iaload, 1) := by decide +kernel
theorem dX10_longest_24 : decode cX10_longest 24 = .ok (.if_icmp .lt 7, 3) := by decide +kernel
theorem dX10_longest_27 : decode cX10_longest 27 = .ok (.iload_n 2, 1) := by decide +kernel
theorem dX10_longest_28 : decode cX10_longest 28 = .ok (.goto 4, 3) := by decide +kernel
theorem dX10_longest_31 : decode cX10_longest 31 = .ok (.iload_n 1, 1) := by decide +kernel
theorem dX10_longest_32 : decode cX10_longest 32 = .ok (.istore_n 1, 1) := by decide +kernel
theorem dX10_longest_33 : decode cX10_longest 33 = .ok (.iinc 2 1, 3) := by decide +kernel
theorem dX10_longest_36 : decode cX10_longest 36 = .ok (.goto (-32), 3) := by decide +kernel
theorem dX10_longest_39 : decode cX10_longest 39 = .ok (.iload_n 1, 1) := by decide +kernel
theorem dX10_longest_40 : decode cX10_longest 40 = .ok (.ireturn, 1) := by decide +kernel
theorem dX10_takes_0 : decode cX10_takes 0 = .ok (.aload_n 0, 1) := by decide +kernel
theorem dX10_takes_1 : decode cX10_takes 1 = .ok (.getfield 69, 3) := by decide +kernel
theorem dX10_takes_4 : decode cX10_takes 4 = .ok (.iload_n 2, 1) := by decide +kernel
theorem dX10_takes_5 : decode cX10_takes 5 = .ok (.iaload, 1) := by decide +kernel
theorem dX10_takes_6 : decode cX10_takes 6 = .ok (.istore_n 3, 1) := by decide +kernel
theorem dX10_takes_7 : decode cX10_takes 7 = .ok (.aload_n 0, 1) := by decide +kernel
theorem dX10_takes_8 : decode cX10_takes 8 = .ok (.getfield 7, 3) := by decide +kernel
theorem dX10_takes_11 : decode cX10_takes 11 = .ok (.aload_n 0, 1) := by decide +kernel
theorem dX10_takes_12 : decode cX10_takes 12 = .ok (.invokevirtual 151, 3) := by decide +kernel
theorem dX10_takes_15 : decode cX10_takes 15 = .ok (.isub, 1) := by decide +kernel
theorem dX10_takes_16 : decode cX10_takes 16 = .ok (.istore 4, 2) := by decide +kernel
theorem dX10_takes_18 : decode cX10_takes 18 = .ok (.aload_n 0, 1) := by decide +kernel
theorem dX10_takes_19 : decode cX10_takes 19 = .ok (.getfield 154, 3) := by decide +kernel
theorem dX10_takes_22 : decode cX10_takes 22 = .ok (.ifCond .ne 24, 3) := by decide +kernel
theorem dX10_takes_25 : decode cX10_takes 25 = .ok (.iload_n 3, 1) := by decide +kernel
theorem dX10_takes_26 : decode cX10_takes 26 = .ok (.aload_n 0, 1) := by decide +kernel
theorem dX10_takes_27 : decode cX10_takes 27 = .ok (.getfield 20, 3) := by decide +kernel
theorem dX10_takes_30 : decode cX10_takes 30 = .ok (.iload_n 2, 1) := by decide +kernel
theorem dX10_takes_31 : decode cX10_takes 31 = .ok (.iaload, 1) := by decide +kernel
theorem dX10_takes_32 : decode cX10_takes 32 = .ok (.if_icmp .ge 12, 3) := by decide +kernel
theorem dX10_takes_35 : decode cX10_takes 35 = .ok (.iload 4, 2) := by decide +kernel
theorem dX10_takes_37 : decode cX10_takes 37 = .ok (.ifCond .le 7, 3) := by decide +kernel
theorem dX10_takes_40 : decode cX10_takes 40 = .ok (.iconst 1, 1) := by decide +kernel
theorem dX10_takes_41 : decode cX10_takes 41 = .ok (.goto 4, 3) := by decide +kernel
theorem dX10_takes_44 : decode cX10_takes 44 = .ok (.iconst 0, 1) := by decide +kernel
theorem dX10_takes_45 : decode cX10_takes 45 = .ok (.ireturn, 1) := by decide +kernel
theorem dX10_takes_46 : decode cX10_takes 46 = .ok (.aload_n 0, 1) := by decide +kernel
theorem dX10_takes_47 : decode cX10_takes 47 = .ok (.getfield 154, 3) := by decide +kernel
theorem dX10_takes_50 : decode cX10_takes 50 = .ok (.iconst 1, 1) := by decide +kernel
theorem dX10_takes_51 : decode cX10_takes 51 = .ok (.if_icmp .ne 28, 3) := by decide +kernel
theorem dX10_takes_54 : decode cX10_takes 54 = .ok (.bipush 16, 2) := by decide +kernel
theorem dX10_takes_56 : decode cX10_takes 56 = .ok (.iload_n 3, 1) := by decide +kernel
theorem dX10_takes_57 : decode cX10_takes 57 = .ok (.imul, 1) := by decide +kernel
theorem dX10_takes_58 : decode cX10_takes 58 = .ok (.aload_n 0, 1) := by decide +kernel
theorem dX10_takes_59 : decode cX10_takes 59 = .ok (.getfield 157, 3) := by decide +kernel
theorem dX10_takes_62 : decode cX10_takes 62 = .ok (.iload 4, 2) := by decide +kernel
theorem dX10_takes_64 : decode cX10_takes 64 = .ok (.imul, 1) := by decide +kernel
theorem dX10_takes_65 : decode cX10_takes 65 = .ok (.if_icmp .ge 12, 3) := by decide +kernel
theorem dX10_takes_68 : decode cX10_takes 68 = .ok (.iload 4, 2) := by decide +kernel
theorem dX10_takes_70 : decode cX10_takes 70 = .ok (.ifCond .le 7, 3) := by decide +kernel
theorem dX10_takes_73 : decode cX10_takes 73 = .ok (.iconst 1, 1) := by decide +kernel
theorem dX10_takes_74 : decode cX10_takes 74 = .ok (.goto 4, 3) := by decide +kernel
theorem dX10_takes_77 : decode cX10_takes 77 = .ok (.iconst 0, 1) := by decide +kernel
theorem dX10_takes_78 : decode cX10_takes 78 = .ok (.ireturn, 1) := by decide +kernel
theorem dX10_takes_79 : decode cX10_takes 79 = .ok (.aload_n 0, 1) := by decide +kernel
theorem dX10_takes_80 : decode cX10_takes 80 = .ok (.getfield 154, 3) := by decide +kernel
theorem dX10_takes_83 : decode cX10_takes 83 = .ok (.iconst 3, 1) := by decide +kernel
theorem dX10_takes_84 : decode cX10_takes 84 = .ok (.if_icmp .ne 39, 3) := by decide +kernel
theorem dX10_takes_87 : decode cX10_takes 87 = .ok (.aload_n 0, 1) := by decide +kernel
theorem dX10_takes_88 : decode cX10_takes 88 = .ok (.getfield 16, 3) := by decide +kernel
theorem dX10_takes_91 : decode cX10_takes 91 = .ok (.iload_n 2, 1) := by decide +kernel
theorem dX10_takes_92 : decode cX10_takes 92 = .ok (.iaload, 1) := by decide +kernel
theorem dX10_takes_93 : decode cX10_takes 93 = .ok (.ifCond .le 13, 3) := by decide +kernel
theorem dX10_takes_96 : decode cX10_takes 96 = .ok (.iload_n 3, 1) := by decide +kernel
theorem dX10_takes_97 : decode cX10_takes 97 = .ok (.aload_n 0, 1) := by decide +kernel
theorem dX10_takes_98 : decode cX10_takes 98 = .ok (.getfield 26, 3) := by decide +kernel
theorem dX10_takes_101 : decode cX10_takes 101 = .ok (.iload_n 2, 1) := by decide +kernel
theorem dX10_takes_102 : decode cX10_takes 102 = .ok (.iaload, 1) := by decide +kernel
theorem dX10_takes_103 : decode cX10_takes 103 = .ok (.if_icmp .lt 14, 3) := by decide +kernel
theorem dX10_takes_106 : decode cX10_takes 106 = .ok (.aload_n 0, 1) := by decide +kernel
theorem dX10_takes_107 : decode cX10_takes 107 = .ok (.invokevirtual 160, 3) := by decide +kernel
theorem dX10_takes_110 : decode cX10_takes 110 = .ok (.aload_n 0, 1) := by decide +kernel
theorem dX10_takes_111 : decode cX10_takes 111 = .ok (.getfield 7, 3) := by decide +kernel
theorem dX10_takes_114 : decode cX10_takes 114 = .ok (.if_icmp .ge 7, 3) := by decide +kernel
theorem dX10_takes_117 : decode cX10_takes 117 = .ok (.iconst 1, 1) := by decide +kernel
theorem dX10_takes_118 : decode cX10_takes 118 = .ok (.goto 4, 3) := by decide +kernel
theorem dX10_takes_121 : decode cX10_takes 121 = .ok (.iconst 0, 1) := by decide +kernel
theorem dX10_takes_122 : decode cX10_takes 122 = .ok (.ireturn, 1) := by decide +kernel
theorem dX10_takes_123 : decode cX10_takes 123 = .ok (.iload 4, 2) := by decide +kernel
theorem dX10_takes_125 : decode cX10_takes 125 = .ok (.ifCond .le 5, 3) := by decide +kernel
theorem dX10_takes_128 : decode cX10_takes 128 = .ok (.iconst 1, 1) := by decide +kernel
theorem dX10_takes_129 : decode cX10_takes 129 = .ok (.ireturn, 1) := by decide +kernel
theorem dX10_takes_130 : decode cX10_takes 130 = .ok (.aload_n 0, 1) := by decide +kernel
theorem dX10_takes_131 : decode cX10_takes 131 = .ok (.invokevirtual 163, 3) := by decide +kernel
theorem dX10_takes_134 : decode cX10_takes 134 = .ok (.istore 5, 2) := by decide +kernel
theorem dX10_takes_136 : decode cX10_takes 136 = .ok (.aload_n 0, 1) := by decide +kernel
theorem dX10_takes_137 : decode cX10_takes 137 = .ok (.getfield 69, 3) := by decide +kernel
theorem dX10_takes_140 : decode cX10_takes 140 = .ok (.iload 5, 2) := by decide +kernel
theorem dX10_takes_142 : decode cX10_takes 142 = .ok (.iaload, 1) := by decide +kernel
theorem dX10_takes_143 : decode cX10_takes 143 = .ok (.iload_n 3, 1) := by decide +kernel
theorem dX10_takes_144 : decode cX10_takes 144 = .ok (.iconst 1, 1) := by decide +kernel
theorem dX10_takes_145 : decode cX10_takes 145 = .ok (.iadd, 1) := by decide +kernel
theorem dX10_takes_146 : decode cX10_takes 146 = .ok (.if_icmp .gt 5, 3) := by decide +kernel
theorem dX10_takes_149 : decode cX10_takes 149 = .ok (.iconst 0, 1) := by decide +kernel
theorem dX10_takes_150 : decode cX10_takes 150 = .ok (.ireturn, 1) := by decide +kernel
theorem dX10_takes_151 : decode cX10_takes 151 = .ok (.aload_n 0, 1) := by decide +kernel
theorem dX10_takes_152 : decode cX10_takes 152 = .ok (.getfield 69, 3) := by decide +kernel
theorem dX10_takes_155 : decode cX10_takes 155 = .ok (.iload 5, 2) := by decide +kernel
theorem dX10_takes_157 : decode cX10_takes 157 = .ok (.dup2, 1) := by decide +kernel
theorem dX10_takes_158 : decode cX10_takes 158 = .ok (.iaload, 1) := by decide +kernel
theorem dX10_takes_159 : decode cX10_takes 159 = .ok (.iconst 1, 1) := by decide +kernel
theorem dX10_takes_160 : decode cX10_takes 160 = .ok (.isub, 1) := by decide +kernel
theorem dX10_takes_161 : decode cX10_takes 161 = .ok (.iastore, 1) := by decide +kernel
theorem dX10_takes_162 : decode cX10_takes 162 = .ok (.aload_n 0, 1) := by decide +kernel
theorem dX10_takes_163 : decode cX10_takes 163 = .ok (.getfield 66, 3) := by decide +kernel
theorem dX10_takes_166 : decode cX10_takes 166 = .ok (.bipush 80, 2) := by decide +kernel
theorem dX10_takes_168 : decode cX10_takes 168 = .ok (.iload 5, 2) := by decide +kernel
theorem dX10_takes_170 : decode cX10_takes 170 = .ok (.imul, 1) := by decide +kernel
theorem dX10_takes_171 : decode cX10_takes 171 = .ok (.aload_n 0, 1) := by decide +kernel
theorem dX10_takes_172 : decode cX10_takes 172 = .ok (.getfield 72, 3) := by decide +kernel
theorem dX10_takes_175 : decode cX10_takes 175 = .ok (.iload 5, 2) := by decide +kernel
theorem dX10_takes_177 : decode cX10_takes 177 = .ok (.iaload, 1) := by decide +kernel
theorem dX10_takes_178 : decode cX10_takes 178 = .ok (.iadd, 1) := by decide +kernel
theorem dX10_takes_179 : decode cX10_takes 179 = .ok (.aload_n 0, 1) := by decide +kernel
theorem dX10_takes_180 : decode cX10_takes 180 = .ok (.getfield 69, 3) := by decide +kernel
theorem dX10_takes_183 : decode cX10_takes 183 = .ok (.iload 5, 2) := by decide +kernel
theorem dX10_takes_185 : decode cX10_takes 185 = .ok (.iaload, 1) := by decide +kernel
theorem dX10_takes_186 : decode cX10_takes 186 = .ok (.iadd, 1) := by decide +kernel
theorem dX10_takes_187 : decode cX10_takes 187 = .ok (.iaload, 1) := by decide +kernel
theorem dX10_takes_188 : decode cX10_takes 188 = .ok (.istore 6, 2) := by decide +kernel
theorem dX10_takes_190 : decode cX10_takes 190 = .ok (.aload_n 0, 1) := by decide +kernel
theorem dX10_takes_191 : decode cX10_takes 191 = .ok (.iload 6, 2) := by decide +kernel
theorem dX10_takes_193 : decode cX10_takes 193 = .ok (.iconst 2, 1) := by decide +kernel
theorem dX10_takes_194 : decode cX10_takes 194 = .ok (.invokevirtual 166, 3) := by decide +kernel
theorem dX10_takes_197 : decode cX10_takes 197 = .ok (.aload_n 0, 1) := by decide +kernel
theorem dX10_takes_198 : decode cX10_takes 198 = .ok (.getfield 90, 3) := by decide +kernel
theorem dX10_takes_201 : decode cX10_takes 201 = .ok (.iload 6, 2) := by decide +kernel
theorem dX10_takes_203 : decode cX10_takes 203 = .ok (.iload_n 1, 1) := by decide +kernel
theorem dX10_takes_204 : decode cX10_takes 204 = .ok (.iastore, 1) := by decide +kernel
theorem dX10_takes_205 : decode cX10_takes 205 = .ok (.iconst 1, 1) := by decide +kernel
theorem dX10_takes_206 : decode cX10_takes 206 = .ok (.ireturn, 1) := by decide +kernel
theorem dX10_comes_0 : decode cX10_comes 0 = .ok (.aload_n 0, 1) := by decide +kernel
theorem dX10_comes_1 : decode cX10_comes 1 = .ok (.getfield 59, 3) := by decide +kernel
theorem dX10_comes_4 : decode cX10_comes 4 = .ok (.bipush 80, 2) := by decide +kernel
theorem dX10_comes_6 : decode cX10_comes 6 = .ok (.aload_n 0, 1) := by decide +kernel
theorem dX10_comes_7 : decode cX10_comes 7 = .ok (.getfield 170, 3) := by decide +kernel
theorem dX10_comes_10 : decode cX10_comes 10 = .ok (.imul, 1) := by decide +kernel
theorem dX10_comes_11 : decode cX10_comes 11 = .ok (.iload_n 1, 1) := by decide +kernel
theorem dX10_comes_12 : decode cX10_comes 12 = .ok (.iadd, 1) := by decide +kernel
theorem dX10_comes_13 : decode cX10_comes 13 = .ok (.iaload, 1) := by decide +kernel
theorem dX10_comes_14 : decode cX10_comes 14 = .ok (.istore_n 2, 1) := by decide +kernel
theorem dX10_comes_15 : decode cX10_comes 15 = .ok (.aload_n 0, 1) := by decide +kernel
theorem dX10_comes_16 : decode cX10_comes 16 = .ok (.iload_n 1, 1) := by decide +kernel
theorem dX10_comes_17 : decode cX10_comes 17 = .ok (.iload_n 2, 1) := by decide +kernel
theorem dX10_comes_18 : decode cX10_comes 18 = .ok (.invokevirtual 173, 3) := by decide +kernel
theorem dX10_comes_21 : decode cX10_comes 21 = .ok (.ifCond .eq 56, 3) := by decide +kernel
theorem dX10_comes_24 : decode cX10_comes 24 = .ok (.aload_n 0, 1) := by decide +kernel
theorem dX10_comes_25 : decode cX10_comes 25 = .ok (.getfield 66, 3) := by decide +kernel
theorem dX10_comes_28 : decode cX10_comes 28 = .ok (.bipush 80, 2) := by decide +kernel
theorem dX10_comes_30 : decode cX10_comes 30 = .ok (.iload_n 2, 1) := by decide +kernel
theorem dX10_comes_31 : decode cX10_comes 31 = .ok (.imul, 1) := by decide +kernel
theorem dX10_comes_32 : decode cX10_comes 32 = .ok (.aload_n 0, 1) := by decide +kernel
theorem dX10_comes_33 : decode cX10_comes 33 = .ok (.getfield 72, 3) := by decide +kernel
theorem dX10_comes_36 : decode cX10_comes 36 = .ok (.iload_n 2, 1) := by decide +kernel
theorem dX10_comes_37 : decode cX10_comes 37 = .ok (.iaload, 1) := by decide +kernel
theorem dX10_comes_38 : decode cX10_comes 38 = .ok (.iadd, 1) := by decide +kernel
theorem dX10_comes_39 : decode cX10_comes 39 = .ok (.aload_n 0, 1) := by decide +kernel
theorem dX10_comes_40 : decode cX10_comes 40 = .ok (.getfield 69, 3) := by decide +kernel
theorem dX10_comes_43 : decode cX10_comes 43 = .ok (.iload_n 2, 1) := by decide +kernel
theorem dX10_comes_44 : decode cX10_comes 44 = .ok (.iaload, 1) := by decide +kernel
theorem dX10_comes_45 : decode cX10_comes 45 = .ok (.iadd, 1) := by decide +kernel
theorem dX10_comes_46 : decode cX10_comes 46 = .ok (.iload_n 1, 1) := by decide +kernel
theorem dX10_comes_47 : decode cX10_comes 47 = .ok (.iastore, 1) := by decide +kernel
theorem dX10_comes_48 : decode cX10_comes 48 = .ok (.aload_n 0, 1) := by decide +kernel
theorem dX10_comes_49 : decode cX10_comes 49 = .ok (.getfield 69, 3) := by decide +kernel
theorem dX10_comes_52 : decode cX10_comes 52 = .ok (.iload_n 2, 1) := by decide +kernel
theorem dX10_comes_53 : decode cX10_comes 53 = .ok (.dup2, 1) := by decide +kernel
theorem dX10_comes_54 : decode cX10_comes 54 = .ok (.iaload, 1) := by decide +kernel
theorem dX10_comes_55 : decode cX10_comes 55 = .ok (.iconst 1, 1) := by decide +kernel
theorem dX10_comes_56 : decode cX10_comes 56 = .ok (.iadd, 1) := by decide +kernel
theorem dX10_comes_57 : decode cX10_comes 57 = .ok (.iastore, 1) := by decide +kernel
theorem dX10_comes_58 : decode cX10_comes 58 = .ok (.aload_n 0, 1) := by decide +kernel
theorem dX10_comes_59 : decode cX10_comes 59 = .ok (.getfield 84, 3) := by decide +kernel
theorem dX10_comes_62 : decode cX10_comes 62 = .ok (.iload_n 1, 1) := by decide +kernel
theorem dX10_comes_63 : decode cX10_comes 63 = .ok (.iconst 0, 1) := by decide +kernel
theorem dX10_comes_64 : decode cX10_comes 64 = .ok (.iastore, 1) := by decide +kernel
theorem dX10_comes_65 : decode cX10_comes 65 = .ok (.aload_n 0, 1) := by decide +kernel
theorem dX10_comes_66 : decode cX10_comes 66 = .ok (.getfield 87, 3) := by decide +kernel
theorem dX10_comes_69 : decode cX10_comes 69 = .ok (.iload_n 1, 1) := by decide +kernel
theorem dX10_comes_70 : decode cX10_comes 70 = .ok (.sipush 400, 3) := by decide +kernel
theorem dX10_comes_73 : decode cX10_comes 73 = .ok (.iastore, 1) := by decide +kernel
theorem dX10_comes_74 : decode cX10_comes 74 = .ok (.goto 9, 3) := by decide +kernel
theorem dX10_comes_77 : decode cX10_comes 77 = .ok (.aload_n 0, 1) := by decide +kernel
theorem dX10_comes_78 : decode cX10_comes 78 = .ok (.iload_n 1, 1) := by decide +kernel
theorem dX10_comes_79 : decode cX10_comes 79 = .ok (.iconst 1, 1) := by decide +kernel
theorem dX10_comes_80 : decode cX10_comes 80 = .ok (.invokevirtual 166, 3) := by decide +kernel
theorem dX10_comes_83 : decode cX10_comes 83 = .ok (.iconst 0, 1) := by decide +kernel
theorem dX10_comes_84 : decode cX10_comes 84 = .ok (.istore_n 3, 1) := by decide +kernel
theorem dX10_comes_85 : decode cX10_comes 85 = .ok (.iload_n 3, 1) := by decide +kernel
theorem dX10_comes_86 : decode cX10_comes 86 = .ok (.iconst 4, 1) := by decide +kernel
theorem dX10_comes_87 : decode cX10_comes 87 = .ok (.if_icmp .ge 45, 3) := by decide +kernel
theorem dX10_comes_90 : decode cX10_comes 90 = .ok (.aload_n 0, 1) := by decide +kernel
theorem dX10_comes_91 : decode cX10_comes 91 = .ok (.getfield 93, 3) := by decide +kernel
theorem dX10_comes_94 : decode cX10_comes 94 = .ok (.iload_n 3, 1) := by decide +kernel
theorem dX10_comes_95 : decode cX10_comes 95 = .ok (.aload_n 0, 1) := by decide +kernel
theorem dX10_comes_96 : decode cX10_comes 96 = .ok (.getfield 69, 3) := by decide +kernel
theorem dX10_comes_99 : decode cX10_comes 99 = .ok (.iload_n 3, 1) := by decide +kernel
theorem dX10_comes_100 : decode cX10_comes 100 = .ok (.iaload, 1) := by decide +kernel
theorem dX10_comes_101 : decode cX10_comes 101 = .ok (.aload_n 0, 1) := by decide +kernel
theorem dX10_comes_102 : decode cX10_comes 102 = .ok (.getfield 93, 3) := by decide +kernel
theorem dX10_comes_105 : decode cX10_comes 105 = .ok (.iload_n 3, 1) := by decide +kernel
theorem dX10_comes_106 : decode cX10_comes 106 = .ok (.iaload, 1) := by decide +kernel
theorem dX10_comes_107 : decode cX10_comes 107 = .ok (.if_icmp .le 12, 3) := by decide +kernel
theorem dX10_comes_110 : decode cX10_comes 110 = .ok (.aload_n 0, 1) := by decide +kernel
theorem dX10_comes_111 : decode cX10_comes 111 = .ok (.getfield 69, 3) := by decide +kernel
theorem dX10_comes_114 : decode cX10_comes 114 = .ok (.iload_n 3, 1) := by decide +kernel
theorem dX10_comes_115 : decode cX10_comes 115 = .ok (.iaload, 1) := by decide +kernel
theorem dX10_comes_116 : decode cX10_comes 116 = .ok (.goto 9, 3) := by decide +kernel
theorem dX10_comes_119 : decode cX10_comes 119 = .ok (.aload_n 0, 1) := by decide +kernel
theorem dX10_comes_120 : decode cX10_comes 120 = .ok (.getfield 93, 3) := by decide +kernel
theorem dX10_comes_123 : decode cX10_comes 123 = .ok (.iload_n 3, 1) := by decide +kernel
theorem dX10_comes_124 : decode cX10_comes 124 = .ok (.iaload, 1) := by decide +kernel
theorem dX10_comes_125 : decode cX10_comes 125 = .ok (.iastore, 1) := by decide +kernel
theorem dX10_comes_126 : decode cX10_comes 126 = .ok (.iinc 3 1, 3) := by decide +kernel
theorem dX10_comes_129 : decode cX10_comes 129 = .ok (.goto (-44), 3) := by decide +kernel
theorem dX10_comes_132 : decode cX10_comes 132 = .ok (.aload_n 0, 1) := by decide +kernel
theorem dX10_comes_133 : decode cX10_comes 133 = .ok (.getfield 93, 3) := by decide +kernel
theorem dX10_comes_136 : decode cX10_comes 136 = .ok (.iconst 4, 1) := by decide +kernel
theorem dX10_comes_137 : decode cX10_comes 137 = .ok (.aload_n 0, 1) := by decide +kernel
theorem dX10_comes_138 : decode cX10_comes 138 = .ok (.invokevirtual 151, 3) := by decide +kernel
theorem dX10_comes_141 : decode cX10_comes 141 = .ok (.aload_n 0, 1) := by decide +kernel
theorem dX10_comes_142 : decode cX10_comes 142 = .ok (.getfield 93, 3) := by decide +kernel
theorem dX10_comes_145 : decode cX10_comes 145 = .ok (.iconst 4, 1) := by decide +kernel
theorem dX10_comes_146 : decode cX10_comes 146 = .ok (.iaload, 1) := by decide +kernel
theorem dX10_comes_147 : decode cX10_comes 147 = .ok (.if_icmp .le 10, 3) := by decide +kernel
theorem dX10_comes_150 : decode cX10_comes 150 = .ok (.aload_n 0, 1) := by decide +kernel
theorem dX10_comes_151 : decode cX10_comes 151 = .ok (.invokevirtual 151, 3) := by decide +kernel
theorem dX10_comes_154 : decode cX10_comes 154 = .ok (.goto 9, 3) := by decide +kernel
theorem dX10_comes_157 : decode cX10_comes 157 = .ok (.aload_n 0, 1) := by decide +kernel
theorem dX10_comes_158 : decode cX10_comes 158 = .ok (.getfield 93, 3) := by decide +kernel
theorem dX10_comes_161 : decode cX10_comes 161 = .ok (.iconst 4, 1) := by decide +kernel
theorem dX10_comes_162 : decode cX10_comes 162 = .ok (.iaload, 1) := by decide +kernel
theorem dX10_comes_163 : decode cX10_comes 163 = .ok (.iastore, 1) := by decide +kernel
theorem dX10_comes_164 : decode cX10_comes 164 = .ok (.return_, 1) := by decide +kernel
theorem dX10_waiting_0 : decode cX10_waiting 0 = .ok (.aload_n 0, 1) := by decide +kernel
theorem dX10_waiting_1 : decode cX10_waiting 1 = .ok (.getfield 75, 3) := by decide +kernel
theorem dX10_waiting_4 : decode cX10_waiting 4 = .ok (.iload_n 1, 1) := by decide +kernel
theorem dX10_waiting_5 : decode cX10_waiting 5 = .ok (.iaload, 1) := by decide +kernel
theorem dX10_waiting_6 : decode cX10_waiting 6 = .ok (.istore_n 2, 1) := by decide +kernel
theorem dX10_waiting_7 : decode cX10_waiting 7 = .ok (.iload_n 2, 1) := by decide +kernel
theorem dX10_waiting_8 : decode cX10_waiting 8 = .ok (.aload_n 0, 1) := by decide +kernel
theorem dX10_waiting_9 : decode cX10_waiting 9 = .ok (.getfield 53, 3) := by decide +kernel
theorem dX10_waiting_12 : decode cX10_waiting 12 = .ok (.aload_n 0, 1) := by decide +kernel
theorem dX10_waiting_13 : decode cX10_waiting 13 = .ok (.getfield 170, 3) := by decide +kernel
theorem dX10_waiting_16 : decode cX10_waiting 16 = .ok (.iaload, 1) := by decide +kernel
theorem dX10_waiting_17 : decode cX10_waiting 17 = .ok (.if_icmp .ge 27, 3) := by decide +kernel
theorem dX10_waiting_20 : decode cX10_waiting 20 = .ok (.aload_n 0, 1) := by decide +kernel
theorem dX10_waiting_21 : decode cX10_waiting 21 = .ok (.getfield 59, 3) := by decide +kernel
theorem dX10_waiting_24 : decode cX10_waiting 24 = .ok (.bipush 80, 2) := by decide +kernel
theorem dX10_waiting_26 : decode cX10_waiting 26 = .ok (.aload_n 0, 1) := by decide +kernel
theorem dX10_waiting_27 : decode cX10_waiting 27 = .ok (.getfield 170, 3) := by decide +kernel
theorem dX10_waiting_30 : decode cX10_waiting 30 = .ok (.imul, 1) := by decide +kernel
theorem dX10_waiting_31 : decode cX10_waiting 31 = .ok (.iload_n 2, 1) := by decide +kernel
theorem dX10_waiting_32 : decode cX10_waiting 32 = .ok (.iadd, 1) := by decide +kernel
theorem dX10_waiting_33 : decode cX10_waiting 33 = .ok (.iaload, 1) := by decide +kernel
theorem dX10_waiting_34 : decode cX10_waiting 34 = .ok (.iload_n 1, 1) := by decide +kernel
theorem dX10_waiting_35 : decode cX10_waiting 35 = .ok (.if_icmp .eq 9, 3) := by decide +kernel
theorem dX10_waiting_38 : decode cX10_waiting 38 = .ok (.iinc 2 1, 3) := by decide +kernel
theorem dX10_waiting_41 : decode cX10_waiting 41 = .ok (.goto (-34), 3) := by decide +kernel
theorem dX10_waiting_44 : decode cX10_waiting 44 = .ok (.aload_n 0, 1) := by decide +kernel
theorem dX10_waiting_45 : decode cX10_waiting 45 = .ok (.getfield 75, 3) := by decide +kernel
theorem dX10_waiting_48 : decode cX10_waiting 48 = .ok (.iload_n 1, 1) := by decide +kernel
theorem dX10_waiting_49 : decode cX10_waiting 49 = .ok (.iload_n 2, 1) := by decide +kernel
theorem dX10_waiting_50 : decode cX10_waiting 50 = .ok (.iastore, 1) := by decide +kernel
theorem dX10_waiting_51 : decode cX10_waiting 51 = .ok (.iload_n 2, 1) := by decide +kernel
theorem dX10_waiting_52 : decode cX10_waiting 52 = .ok (.aload_n 0, 1) := by decide +kernel
theorem dX10_waiting_53 : decode cX10_waiting 53 = .ok (.getfield 53, 3) := by decide +kernel
theorem dX10_waiting_56 : decode cX10_waiting 56 = .ok (.aload_n 0, 1) := by decide +kernel
theorem dX10_waiting_57 : decode cX10_waiting 57 = .ok (.getfield 170, 3) := by decide +kernel
theorem dX10_waiting_60 : decode cX10_waiting 60 = .ok (.iaload, 1) := by decide +kernel
theorem dX10_waiting_61 : decode cX10_waiting 61 = .ok (.if_icmp .ge 28, 3) := by decide +kernel
theorem dX10_waiting_64 : decode cX10_waiting 64 = .ok (.aload_n 0, 1) := by decide +kernel
theorem dX10_waiting_65 : decode cX10_waiting 65 = .ok (.getfield 56, 3) := by decide +kernel
theorem dX10_waiting_68 : decode cX10_waiting 68 = .ok (.bipush 80, 2) := by decide +kernel
theorem dX10_waiting_70 : decode cX10_waiting 70 = .ok (.aload_n 0, 1) := by decide +kernel
theorem dX10_waiting_71 : decode cX10_waiting 71 = .ok (.getfield 170, 3) := by decide +kernel
theorem dX10_waiting_74 : decode cX10_waiting 74 = .ok (.imul, 1) := by decide +kernel
theorem dX10_waiting_75 : decode cX10_waiting 75 = .ok (.iload_n 2, 1) := by decide +kernel
theorem dX10_waiting_76 : decode cX10_waiting 76 = .ok (.iadd, 1) := by decide +kernel
theorem dX10_waiting_77 : decode cX10_waiting 77 = .ok (.iaload, 1) := by decide +kernel
theorem dX10_waiting_78 : decode cX10_waiting 78 = .ok (.aload_n 0, 1) := by decide +kernel
theorem dX10_waiting_79 : decode cX10_waiting 79 = .ok (.getfield 148, 3) := by decide +kernel
theorem dX10_waiting_82 : decode cX10_waiting 82 = .ok (.if_icmp .gt 7, 3) := by decide +kernel
theorem dX10_waiting_85 : decode cX10_waiting 85 = .ok (.iload_n 2, 1) := by decide +kernel
theorem dX10_waiting_86 : decode cX10_waiting 86 = .ok (.goto 4, 3) := by decide +kernel
theorem dX10_waiting_89 : decode cX10_waiting 89 = .ok (.iconst (-1), 1) := by decide +kernel
theorem dX10_waiting_90 : decode cX10_waiting 90 = .ok (.ireturn, 1) := by decide +kernel
theorem dX10_isLeft_0 : decode cX10_isLeft 0 = .ok (.aload_n 0, 1) := by decide +kernel
theorem dX10_isLeft_1 : decode cX10_isLeft 1 = .ok (.invokevirtual 151, 3) := by decide +kernel
theorem dX10_isLeft_4 : decode cX10_isLeft 4 = .ok (.ifCond .le 7, 3) := by decide +kernel
theorem dX10_isLeft_7 : decode cX10_isLeft 7 = .ok (.iconst 1, 1) := by decide +kernel
theorem dX10_isLeft_8 : decode cX10_isLeft 8 = .ok (.goto 4, 3) := by decide +kernel
theorem dX10_isLeft_11 : decode cX10_isLeft 11 = .ok (.iconst 0, 1) := by decide +kernel
theorem dX10_isLeft_12 : decode cX10_isLeft 12 = .ok (.istore_n 1, 1) := by decide +kernel
theorem dX10_isLeft_13 : decode cX10_isLeft 13 = .ok (.iconst 0, 1) := by decide +kernel
theorem dX10_isLeft_14 : decode cX10_isLeft 14 = .ok (.istore_n 2, 1) := by decide +kernel
theorem dX10_isLeft_15 : decode cX10_isLeft 15 = .ok (.iload_n 2, 1) := by decide +kernel
theorem dX10_isLeft_16 : decode cX10_isLeft 16 = .ok (.aload_n 0, 1) := by decide +kernel
theorem dX10_isLeft_17 : decode cX10_isLeft 17 = .ok (.getfield 53, 3) := by decide +kernel
theorem dX10_isLeft_20 : decode cX10_isLeft 20 = .ok (.aload_n 0, 1) := by decide +kernel
theorem dX10_isLeft_21 : decode cX10_isLeft 21 = .ok (.getfield 170, 3) := by decide +kernel
theorem dX10_isLeft_24 : decode cX10_isLeft 24 = .ok (.iaload, 1) := by decide +kernel
theorem dX10_isLeft_25 : decode cX10_isLeft 25 = .ok (.if_icmp .ge 81, 3) := by decide +kernel
theorem dX10_isLeft_28 : decode cX10_isLeft 28 = .ok (.iload_n 1, 1) := by decide +kernel
theorem dX10_isLeft_29 : decode cX10_isLeft 29 = .ok (.ifCond .ne 77, 3) := by decide +kernel
theorem dX10_isLeft_32 : decode cX10_isLeft 32 = .ok (.aload_n 0, 1) := by decide +kernel
theorem dX10_isLeft_33 : decode cX10_isLeft 33 = .ok (.getfield 59, 3) := by decide +kernel
theorem dX10_isLeft_36 : decode cX10_isLeft 36 = .ok (.bipush 80, 2) := by decide +kernel
theorem dX10_isLeft_38 : decode cX10_isLeft 38 = .ok (.aload_n 0, 1) := by decide +kernel
theorem dX10_isLeft_39 : decode cX10_isLeft 39 = .ok (.getfield 170, 3) := by decide +kernel
theorem dX10_isLeft_42 : decode cX10_isLeft 42 = .ok (.imul, 1) := by decide +kernel
theorem dX10_isLeft_43 : decode cX10_isLeft 43 = .ok (.iload_n 2, 1) := by decide +kernel
theorem dX10_isLeft_44 : decode cX10_isLeft 44 = .ok (.iadd, 1) := by decide +kernel
theorem dX10_isLeft_45 : decode cX10_isLeft 45 = .ok (.iaload, 1) := by decide +kernel
theorem dX10_isLeft_46 : decode cX10_isLeft 46 = .ok (.istore_n 3, 1) := by decide +kernel
theorem dX10_isLeft_47 : decode cX10_isLeft 47 = .ok (.aload_n 0, 1) := by decide +kernel
theorem dX10_isLeft_48 : decode cX10_isLeft 48 = .ok (.iload_n 3, 1) := by decide +kernel
theorem dX10_isLeft_49 : decode cX10_isLeft 49 = .ok (.invokevirtual 177, 3) := by decide +kernel
theorem dX10_isLeft_52 : decode cX10_isLeft 52 = .ok (.ifCond .eq 21, 3) := by decide +kernel
theorem dX10_isLeft_55 : decode cX10_isLeft 55 = .ok (.iload_n 2, 1) := by decide +kernel
theorem dX10_isLeft_56 : decode cX10_isLeft 56 = .ok (.aload_n 0, 1) := by decide +kernel
theorem dX10_isLeft_57 : decode cX10_isLeft 57 = .ok (.getfield 75, 3) := by decide +kernel
theorem dX10_isLeft_60 : decode cX10_isLeft 60 = .ok (.iload_n 3, 1) := by decide +kernel
theorem dX10_isLeft_61 : decode cX10_isLeft 61 = .ok (.iaload, 1) := by decide +kernel
theorem dX10_isLeft_62 : decode cX10_isLeft 62 = .ok (.if_icmp .lt 7, 3) := by decide +kernel
theorem dX10_isLeft_65 : decode cX10_isLeft 65 = .ok (.iconst 1, 1) := by decide +kernel
theorem dX10_isLeft_66 : decode cX10_isLeft 66 = .ok (.goto 33, 3) := by decide +kernel
theorem dX10_isLeft_69 : decode cX10_isLeft 69 = .ok (.iconst 0, 1) := by decide +kernel
theorem dX10_isLeft_70 : decode cX10_isLeft 70 = .ok (.goto 29, 3) := by decide +kernel
theorem dX10_isLeft_73 : decode cX10_isLeft 73 = .ok (.aload_n 0, 1) := by decide +kernel
theorem dX10_isLeft_74 : decode cX10_isLeft 74 = .ok (.getfield 56, 3) := by decide +kernel
theorem dX10_isLeft_77 : decode cX10_isLeft 77 = .ok (.bipush 80, 2) := by decide +kernel
theorem dX10_isLeft_79 : decode cX10_isLeft 79 = .ok (.aload_n 0, 1) := by decide +kernel
theorem dX10_isLeft_80 : decode cX10_isLeft 80 = .ok (.getfield 170, 3) := by decide +kernel
theorem dX10_isLeft_83 : decode cX10_isLeft 83 = .ok (.imul, 1) := by decide +kernel
theorem dX10_isLeft_84 : decode cX10_isLeft 84 = .ok (.iload_n 2, 1) := by decide +kernel
theorem dX10_isLeft_85 : decode cX10_isLeft 85 = .ok (.iadd, 1) := by decide +kernel
theorem dX10_isLeft_86 : decode cX10_isLeft 86 = .ok (.iaload, 1) := by decide +kernel
theorem dX10_isLeft_87 : decode cX10_isLeft 87 = .ok (.aload_n 0, 1) := by decide +kernel
theorem dX10_isLeft_88 : decode cX10_isLeft 88 = .ok (.getfield 148, 3) := by decide +kernel
theorem dX10_isLeft_91 : decode cX10_isLeft 91 = .ok (.if_icmp .lt 7, 3) := by decide +kernel
theorem dX10_isLeft_94 : decode cX10_isLeft 94 = .ok (.iconst 1, 1) := by decide +kernel
theorem dX10_isLeft_95 : decode cX10_isLeft 95 = .ok (.goto 4, 3) := by decide +kernel
theorem dX10_isLeft_98 : decode cX10_isLeft 98 = .ok (.iconst 0, 1) := by decide +kernel
theorem dX10_isLeft_99 : decode cX10_isLeft 99 = .ok (.istore_n 1, 1) := by decide +kernel
theorem dX10_isLeft_100 : decode cX10_isLeft 100 = .ok (.iinc 2 1, 3) := by decide +kernel
theorem dX10_isLeft_103 : decode cX10_isLeft 103 = .ok (.goto (-88), 3) := by decide +kernel
theorem dX10_isLeft_106 : decode cX10_isLeft 106 = .ok (.iload_n 1, 1) := by decide +kernel
theorem dX10_isLeft_107 : decode cX10_isLeft 107 = .ok (.ireturn, 1) := by decide +kernel
theorem dX10_senders_0 : decode cX10_senders 0 = .ok (.iconst 0, 1) := by decide +kernel
theorem dX10_senders_1 : decode cX10_senders 1 = .ok (.istore_n 1, 1) := by decide +kernel
theorem dX10_senders_2 : decode cX10_senders 2 = .ok (.iload_n 1, 1) := by decide +kernel
theorem dX10_senders_3 : decode cX10_senders 3 = .ok (.aload_n 0, 1) := by decide +kernel
theorem dX10_senders_4 : decode cX10_senders 4 = .ok (.getfield 13, 3) := by decide +kernel
theorem dX10_senders_7 : decode cX10_senders 7 = .ok (.if_icmp .ge 100, 3) := by decide +kernel
theorem dX10_senders_10 : decode cX10_senders 10 = .ok (.aload_n 0, 1) := by decide +kernel
theorem dX10_senders_11 : decode cX10_senders 11 = .ok (.getfield 148, 3) := by decide +kernel
theorem dX10_senders_14 : decode cX10_senders 14 = .ok (.iconst 1, 1) := by decide +kernel
theorem dX10_senders_15 : decode cX10_senders 15 = .ok (.isub, 1) := by decide +kernel
theorem dX10_senders_16 : decode cX10_senders 16 = .ok (.aload_n 0, 1) := by decide +kernel
theorem dX10_senders_17 : decode cX10_senders 17 = .ok (.getfield 35, 3) := by decide +kernel
theorem dX10_senders_20 : decode cX10_senders 20 = .ok (.iload_n 1, 1) := by decide +kernel
theorem dX10_senders_21 : decode cX10_senders 21 = .ok (.iaload, 1) := by decide +kernel
theorem dX10_senders_22 : decode cX10_senders 22 = .ok (.isub, 1) := by decide +kernel
theorem dX10_senders_23 : decode cX10_senders 23 = .ok (.istore_n 2, 1) := by decide +kernel
theorem dX10_senders_24 : decode cX10_senders 24 = .ok (.aload_n 0, 1) := by decide +kernel
theorem dX10_senders_25 : decode cX10_senders 25 = .ok (.iload_n 1, 1) := by decide +kernel
theorem dX10_senders_26 : decode cX10_senders 26 = .ok (.invokevirtual 177, 3) := by decide +kernel
theorem dX10_senders_29 : decode cX10_senders 29 = .ok (.ifCond .eq 26, 3) := by decide +kernel
theorem dX10_senders_32 : decode cX10_senders 32 = .ok (.iload_n 2, 1) := by decide +kernel
theorem dX10_senders_33 : decode cX10_senders 33 = .ok (.ifCond .lt 22, 3) := by decide +kernel
theorem dX10_senders_36 : decode cX10_senders 36 = .ok (.aload_n 0, 1) := by decide +kernel
theorem dX10_senders_37 : decode cX10_senders 37 = .ok (.getfield 81, 3) := by decide +kernel
theorem dX10_senders_40 : decode cX10_senders 40 = .ok (.sipush 400, 3) := by decide +kernel
theorem dX10_senders_43 : decode cX10_senders 43 = .ok (.iload_n 1, 1) := by decide +kernel
theorem dX10_senders_44 : decode cX10_senders 44 = .ok (.imul, 1) := by decide +kernel
theorem dX10_senders_45 : decode cX10_senders 45 = .ok (.iload_n 2, 1) := by decide +kernel
theorem dX10_senders_46 : decode cX10_senders 46 = .ok (.iadd, 1) := by decide +kernel
theorem dX10_senders_47 : decode cX10_senders 47 = .ok (.baload, 1) := by decide +kernel
theorem dX10_senders_48 : decode cX10_senders 48 = .ok (.ifCond .eq 7, 3) := by decide +kernel
theorem dX10_senders_51 : decode cX10_senders 51 = .ok (.iconst 1, 1) := by decide +kernel
theorem dX10_senders_52 : decode cX10_senders 52 = .ok (.goto 4, 3) := by decide +kernel
theorem dX10_senders_55 : decode cX10_senders 55 = .ok (.iconst 0, 1) := by decide +kernel
theorem dX10_senders_56 : decode cX10_senders 56 = .ok (.istore_n 3, 1) := by decide +kernel
theorem dX10_senders_57 : decode cX10_senders 57 = .ok (.aload_n 0, 1) := by decide +kernel
theorem dX10_senders_58 : decode cX10_senders 58 = .ok (.iload_n 1, 1) := by decide +kernel
theorem dX10_senders_59 : decode cX10_senders 59 = .ok (.invokevirtual 177, 3) := by decide +kernel
theorem dX10_senders_62 : decode cX10_senders 62 = .ok (.ifCond .eq 15, 3) := by decide +kernel
theorem dX10_senders_65 : decode cX10_senders 65 = .ok (.iload_n 3, 1) := by decide +kernel
theorem dX10_senders_66 : decode cX10_senders 66 = .ok (.ifCond .ne 11, 3) := by decide +kernel
theorem dX10_senders_69 : decode cX10_senders 69 = .ok (.aload_n 0, 1) := by decide +kernel
theorem dX10_senders_70 : decode cX10_senders 70 = .ok (.iload_n 1, 1) := by decide +kernel
theorem dX10_senders_71 : decode cX10_senders 71 = .ok (.invokevirtual 180, 3) := by decide +kernel
theorem dX10_senders_74 : decode cX10_senders 74 = .ok (.goto 4, 3) := by decide +kernel
theorem dX10_senders_77 : decode cX10_senders 77 = .ok (.iconst (-1), 1) := by decide +kernel
theorem dX10_senders_78 : decode cX10_senders 78 = .ok (.istore 4, 2) := by decide +kernel
theorem dX10_senders_80 : decode cX10_senders 80 = .ok (.iload 4, 2) := by decide +kernel
theorem dX10_senders_82 : decode cX10_senders 82 = .ok (.ifCond .lt 19, 3) := by decide +kernel
theorem dX10_senders_85 : decode cX10_senders 85 = .ok (.aload_n 0, 1) := by decide +kernel
theorem dX10_senders_86 : decode cX10_senders 86 = .ok (.getfield 75, 3) := by decide +kernel
theorem dX10_senders_89 : decode cX10_senders 89 = .ok (.iload_n 1, 1) := by decide +kernel
theorem dX10_senders_90 : decode cX10_senders 90 = .ok (.iload 4, 2) := by decide +kernel
theorem dX10_senders_92 : decode cX10_senders 92 = .ok (.iconst 1, 1) := by decide +kernel
theorem dX10_senders_93 : decode cX10_senders 93 = .ok (.iadd, 1) := by decide +kernel
theorem dX10_senders_94 : decode cX10_senders 94 = .ok (.iastore, 1) := by decide +kernel
theorem dX10_senders_95 : decode cX10_senders 95 = .ok (.aload_n 0, 1) := by decide +kernel
theorem dX10_senders_96 : decode cX10_senders 96 = .ok (.iload 4, 2) := by decide +kernel
theorem dX10_senders_98 : decode cX10_senders 98 = .ok (.invokevirtual 184, 3) := by decide +kernel
theorem dX10_senders_101 : decode cX10_senders 101 = .ok (.iinc 1 1, 3) := by decide +kernel
theorem dX10_senders_104 : decode cX10_senders 104 = .ok (.goto (-102), 3) := by decide +kernel
theorem dX10_senders_107 : decode cX10_senders 107 = .ok (.return_, 1) := by decide +kernel
theorem dX10_sends_0 : decode cX10_sends 0 = .ok (.iconst 0, 1) := by decide +kernel
theorem dX10_sends_1 : decode cX10_sends 1 = .ok (.istore_n 1, 1) := by decide +kernel
theorem dX10_sends_2 : decode cX10_sends 2 = .ok (.iload_n 1, 1) := by decide +kernel
theorem dX10_sends_3 : decode cX10_sends 3 = .ok (.aload_n 0, 1) := by decide +kernel
theorem dX10_sends_4 : decode cX10_sends 4 = .ok (.getfield 13, 3) := by decide +kernel
theorem dX10_sends_7 : decode cX10_sends 7 = .ok (.if_icmp .ge 75, 3) := by decide +kernel
theorem dX10_sends_10 : decode cX10_sends 10 = .ok (.aload_n 0, 1) := by decide +kernel
theorem dX10_sends_11 : decode cX10_sends 11 = .ok (.getfield 69, 3) := by decide +kernel
theorem dX10_sends_14 : decode cX10_sends 14 = .ok (.iload_n 1, 1) := by decide +kernel
theorem dX10_sends_15 : decode cX10_sends 15 = .ok (.iaload, 1) := by decide +kernel
theorem dX10_sends_16 : decode cX10_sends 16 = .ok (.ifCond .le 60, 3) := by decide +kernel
theorem dX10_sends_19 : decode cX10_sends 19 = .ok (.aload_n 0, 1) := by decide +kernel
theorem dX10_sends_20 : decode cX10_sends 20 = .ok (.getfield 148, 3) := by decide +kernel
theorem dX10_sends_23 : decode cX10_sends 23 = .ok (.iconst 1, 1) := by decide +kernel
theorem dX10_sends_24 : decode cX10_sends 24 = .ok (.iadd, 1) := by decide +kernel
theorem dX10_sends_25 : decode cX10_sends 25 = .ok (.aload_n 0, 1) := by decide +kernel
theorem dX10_sends_26 : decode cX10_sends 26 = .ok (.getfield 23, 3) := by decide +kernel
theorem dX10_sends_29 : decode cX10_sends 29 = .ok (.iload_n 1, 1) := by decide +kernel
theorem dX10_sends_30 : decode cX10_sends 30 = .ok (.iaload, 1) := by decide +kernel
theorem dX10_sends_31 : decode cX10_sends 31 = .ok (.irem, 1) := by decide +kernel
theorem dX10_sends_32 : decode cX10_sends 32 = .ok (.ifCond .ne 44, 3) := by decide +kernel
theorem dX10_sends_35 : decode cX10_sends 35 = .ok (.aload_n 0, 1) := by decide +kernel
theorem dX10_sends_36 : decode cX10_sends 36 = .ok (.aload_n 0, 1) := by decide +kernel
theorem dX10_sends_37 : decode cX10_sends 37 = .ok (.getfield 66, 3) := by decide +kernel
theorem dX10_sends_40 : decode cX10_sends 40 = .ok (.bipush 80, 2) := by decide +kernel
theorem dX10_sends_42 : decode cX10_sends 42 = .ok (.iload_n 1, 1) := by decide +kernel
theorem dX10_sends_43 : decode cX10_sends 43 = .ok (.imul, 1) := by decide +kernel
theorem dX10_sends_44 : decode cX10_sends 44 = .ok (.aload_n 0, 1) := by decide +kernel
theorem dX10_sends_45 : decode cX10_sends 45 = .ok (.getfield 72, 3) := by decide +kernel
theorem dX10_sends_48 : decode cX10_sends 48 = .ok (.iload_n 1, 1) := by decide +kernel
theorem dX10_sends_49 : decode cX10_sends 49 = .ok (.iaload, 1) := by decide +kernel
theorem dX10_sends_50 : decode cX10_sends 50 = .ok (.iadd, 1) := by decide +kernel
theorem dX10_sends_51 : decode cX10_sends 51 = .ok (.iaload, 1) := by decide +kernel
theorem dX10_sends_52 : decode cX10_sends 52 = .ok (.iconst 0, 1) := by decide +kernel
theorem dX10_sends_53 : decode cX10_sends 53 = .ok (.invokevirtual 166, 3) := by decide +kernel
theorem dX10_sends_56 : decode cX10_sends 56 = .ok (.aload_n 0, 1) := by decide +kernel
theorem dX10_sends_57 : decode cX10_sends 57 = .ok (.getfield 72, 3) := by decide +kernel
theorem dX10_sends_60 : decode cX10_sends 60 = .ok (.iload_n 1, 1) := by decide +kernel
theorem dX10_sends_61 : decode cX10_sends 61 = .ok (.dup2, 1) := by decide +kernel
theorem dX10_sends_62 : decode cX10_sends 62 = .ok (.iaload, 1) := by decide +kernel
theorem dX10_sends_63 : decode cX10_sends 63 = .ok (.iconst 1, 1) := by decide +kernel
theorem dX10_sends_64 : decode cX10_sends 64 = .ok (.iadd, 1) := by decide +kernel
theorem dX10_sends_65 : decode cX10_sends 65 = .ok (.iastore, 1) := by decide +kernel
theorem dX10_sends_66 : decode cX10_sends 66 = .ok (.aload_n 0, 1) := by decide +kernel
theorem dX10_sends_67 : decode cX10_sends 67 = .ok (.getfield 69, 3) := by decide +kernel
theorem dX10_sends_70 : decode cX10_sends 70 = .ok (.iload_n 1, 1) := by decide +kernel
theorem dX10_sends_71 : decode cX10_sends 71 = .ok (.dup2, 1) := by decide +kernel
theorem dX10_sends_72 : decode cX10_sends 72 = .ok (.iaload, 1) := by decide +kernel
theorem dX10_sends_73 : decode cX10_sends 73 = .ok (.iconst 1, 1) := by decide +kernel
theorem dX10_sends_74 : decode cX10_sends 74 = .ok (.isub, 1) := by decide +kernel
theorem dX10_sends_75 : decode cX10_sends 75 = .ok (.iastore, 1) := by decide +kernel
theorem dX10_sends_76 : decode cX10_sends 76 = .ok (.iinc 1 1, 3) := by decide +kernel
theorem dX10_sends_79 : decode cX10_sends 79 = .ok (.goto (-77), 3) := by decide +kernel
theorem dX10_sends_82 : decode cX10_sends 82 = .ok (.return_, 1) := by decide +kernel
theorem dX10_tells_0 : decode cX10_tells 0 = .ok (.iconst 0, 1) := by decide +kernel
theorem dX10_tells_1 : decode cX10_tells 1 = .ok (.istore_n 2, 1) := by decide +kernel
theorem dX10_tells_2 : decode cX10_tells 2 = .ok (.iload_n 2, 1) := by decide +kernel
theorem dX10_tells_3 : decode cX10_tells 3 = .ok (.iconst 4, 1) := by decide +kernel
theorem dX10_tells_4 : decode cX10_tells 4 = .ok (.if_icmp .ge 113, 3) := by decide +kernel
theorem dX10_tells_7 : decode cX10_tells 7 = .ok (.iload_n 2, 1) := by decide +kernel
theorem dX10_tells_8 : decode cX10_tells 8 = .ok (.aload_n 0, 1) := by decide +kernel
theorem dX10_tells_9 : decode cX10_tells 9 = .ok (.getfield 13, 3) := by decide +kernel
theorem dX10_tells_12 : decode cX10_tells 12 = .ok (.if_icmp .ge 74, 3) := by decide +kernel
theorem dX10_tells_15 : decode cX10_tells 15 = .ok (.aload_n 0, 1) := by decide +kernel
theorem dX10_tells_16 : decode cX10_tells 16 = .ok (.getfield 78, 3) := by decide +kernel
theorem dX10_tells_19 : decode cX10_tells 19 = .ok (.iload_n 2, 1) := by decide +kernel
theorem dX10_tells_20 : decode cX10_tells 20 = .ok (.aload_n 0, 1) := by decide +kernel
theorem dX10_tells_21 : decode cX10_tells 21 = .ok (.getfield 69, 3) := by decide +kernel
theorem dX10_tells_24 : decode cX10_tells 24 = .ok (.iload_n 2, 1) := by decide +kernel
theorem dX10_tells_25 : decode cX10_tells 25 = .ok (.iaload, 1) := by decide +kernel
end
section
theorem dX10_tells_26 : decode cX10_tells 26 = .ok (.aload_n 0, 1) := by decide +kernel
theorem dX10_tells_27 : decode cX10_tells 27 = .ok (.getfield 29, 3) := by decide +kernel
theorem dX10_tells_30 : decode cX10_tells 30 = .ok (.iload_n 2, 1) := by decide +kernel
theorem dX10_tells_31 : decode cX10_tells 31 = .ok (.iaload, 1) := by decide +kernel
theorem dX10_tells_32 : decode cX10_tells 32 = .ok (.if_icmp .ge 27, 3) := by decide +kernel
theorem dX10_tells_35 : decode cX10_tells 35 = .ok (.aload_n 0, 1) := by decide +kernel
theorem dX10_tells_36 : decode cX10_tells 36 = .ok (.getfield 69, 3) := by decide +kernel
theorem dX10_tells_39 : decode cX10_tells 39 = .ok (.iload_n 2, 1) := by decide +kernel
theorem dX10_tells_40 : decode cX10_tells 40 = .ok (.iaload, 1) := by decide +kernel
theorem dX10_tells_41 : decode cX10_tells 41 = .ok (.aload_n 0, 1) := by decide +kernel
theorem dX10_tells_42 : decode cX10_tells 42 = .ok (.getfield 32, 3) := by decide +kernel
theorem dX10_tells_45 : decode cX10_tells 45 = .ok (.iload_n 2, 1) := by decide +kernel
theorem dX10_tells_46 : decode cX10_tells 46 = .ok (.iaload, 1) := by decide +kernel
theorem dX10_tells_47 : decode cX10_tells 47 = .ok (.if_icmp .le 16, 3) := by decide +kernel
theorem dX10_tells_50 : decode cX10_tells 50 = .ok (.aload_n 0, 1) := by decide +kernel
theorem dX10_tells_51 : decode cX10_tells 51 = .ok (.getfield 78, 3) := by decide +kernel
theorem dX10_tells_54 : decode cX10_tells 54 = .ok (.iload_n 2, 1) := by decide +kernel
theorem dX10_tells_55 : decode cX10_tells 55 = .ok (.baload, 1) := by decide +kernel
theorem dX10_tells_56 : decode cX10_tells 56 = .ok (.ifCond .eq 7, 3) := by decide +kernel
theorem dX10_tells_59 : decode cX10_tells 59 = .ok (.iconst 1, 1) := by decide +kernel
theorem dX10_tells_60 : decode cX10_tells 60 = .ok (.goto 4, 3) := by decide +kernel
theorem dX10_tells_63 : decode cX10_tells 63 = .ok (.iconst 0, 1) := by decide +kernel
theorem dX10_tells_64 : decode cX10_tells 64 = .ok (.bastore, 1) := by decide +kernel
theorem dX10_tells_65 : decode cX10_tells 65 = .ok (.aload_n 0, 1) := by decide +kernel
theorem dX10_tells_66 : decode cX10_tells 66 = .ok (.getfield 81, 3) := by decide +kernel
theorem dX10_tells_69 : decode cX10_tells 69 = .ok (.sipush 400, 3) := by decide +kernel
theorem dX10_tells_72 : decode cX10_tells 72 = .ok (.iload_n 2, 1) := by decide +kernel
theorem dX10_tells_73 : decode cX10_tells 73 = .ok (.imul, 1) := by decide +kernel
theorem dX10_tells_74 : decode cX10_tells 74 = .ok (.aload_n 0, 1) := by decide +kernel
theorem dX10_tells_75 : decode cX10_tells 75 = .ok (.getfield 148, 3) := by decide +kernel
theorem dX10_tells_78 : decode cX10_tells 78 = .ok (.iadd, 1) := by decide +kernel
theorem dX10_tells_79 : decode cX10_tells 79 = .ok (.aload_n 0, 1) := by decide +kernel
theorem dX10_tells_80 : decode cX10_tells 80 = .ok (.getfield 78, 3) := by decide +kernel
theorem dX10_tells_83 : decode cX10_tells 83 = .ok (.iload_n 2, 1) := by decide +kernel
theorem dX10_tells_84 : decode cX10_tells 84 = .ok (.baload, 1) := by decide +kernel
theorem dX10_tells_85 : decode cX10_tells 85 = .ok (.bastore, 1) := by decide +kernel
theorem dX10_tells_86 : decode cX10_tells 86 = .ok (.iload_n 1, 1) := by decide +kernel
theorem dX10_tells_87 : decode cX10_tells 87 = .ok (.ifCond .eq 24, 3) := by decide +kernel
theorem dX10_tells_90 : decode cX10_tells 90 = .ok (.aload_n 0, 1) := by decide +kernel
theorem dX10_tells_91 : decode cX10_tells 91 = .ok (.getfield 96, 3) := by decide +kernel
theorem dX10_tells_94 : decode cX10_tells 94 = .ok (.sipush 400, 3) := by decide +kernel
theorem dX10_tells_97 : decode cX10_tells 97 = .ok (.iload_n 2, 1) := by decide +kernel
theorem dX10_tells_98 : decode cX10_tells 98 = .ok (.imul, 1) := by decide +kernel
theorem dX10_tells_99 : decode cX10_tells 99 = .ok (.aload_n 0, 1) := by decide +kernel
theorem dX10_tells_100 : decode cX10_tells 100 = .ok (.getfield 148, 3) := by decide +kernel
theorem dX10_tells_103 : decode cX10_tells 103 = .ok (.iadd, 1) := by decide +kernel
theorem dX10_tells_104 : decode cX10_tells 104 = .ok (.aload_n 0, 1) := by decide +kernel
theorem dX10_tells_105 : decode cX10_tells 105 = .ok (.getfield 69, 3) := by decide +kernel
theorem dX10_tells_108 : decode cX10_tells 108 = .ok (.iload_n 2, 1) := by decide +kernel
theorem dX10_tells_109 : decode cX10_tells 109 = .ok (.iaload, 1) := by decide +kernel
theorem dX10_tells_110 : decode cX10_tells 110 = .ok (.iastore, 1) := by decide +kernel
theorem dX10_tells_111 : decode cX10_tells 111 = .ok (.iinc 2 1, 3) := by decide +kernel
theorem dX10_tells_114 : decode cX10_tells 114 = .ok (.goto (-112), 3) := by decide +kernel
theorem dX10_tells_117 : decode cX10_tells 117 = .ok (.return_, 1) := by decide +kernel
theorem dX10_go_0 : decode cX10_go 0 = .ok (.aload_n 0, 1) := by decide +kernel
theorem dX10_go_1 : decode cX10_go 1 = .ok (.iload_n 1, 1) := by decide +kernel
theorem dX10_go_2 : decode cX10_go 2 = .ok (.putfield 170, 3) := by decide +kernel
theorem dX10_go_5 : decode cX10_go 5 = .ok (.aload_n 0, 1) := by decide +kernel
theorem dX10_go_6 : decode cX10_go 6 = .ok (.iload_n 2, 1) := by decide +kernel
theorem dX10_go_7 : decode cX10_go 7 = .ok (.putfield 154, 3) := by decide +kernel
theorem dX10_go_10 : decode cX10_go 10 = .ok (.aload_n 0, 1) := by decide +kernel
theorem dX10_go_11 : decode cX10_go 11 = .ok (.iload_n 3, 1) := by decide +kernel
theorem dX10_go_12 : decode cX10_go 12 = .ok (.putfield 157, 3) := by decide +kernel
theorem dX10_go_15 : decode cX10_go 15 = .ok (.aload_n 0, 1) := by decide +kernel
theorem dX10_go_16 : decode cX10_go 16 = .ok (.iload 4, 2) := by decide +kernel
theorem dX10_go_18 : decode cX10_go 18 = .ok (.putfield 144, 3) := by decide +kernel
theorem dX10_go_21 : decode cX10_go 21 = .ok (.iconst 0, 1) := by decide +kernel
theorem dX10_go_22 : decode cX10_go 22 = .ok (.istore 6, 2) := by decide +kernel
theorem dX10_go_24 : decode cX10_go 24 = .ok (.iload 6, 2) := by decide +kernel
theorem dX10_go_26 : decode cX10_go 26 = .ok (.iconst 4, 1) := by decide +kernel
theorem dX10_go_27 : decode cX10_go 27 = .ok (.if_icmp .ge 41, 3) := by decide +kernel
theorem dX10_go_30 : decode cX10_go 30 = .ok (.aload_n 0, 1) := by decide +kernel
theorem dX10_go_31 : decode cX10_go 31 = .ok (.getfield 69, 3) := by decide +kernel
theorem dX10_go_34 : decode cX10_go 34 = .ok (.iload 6, 2) := by decide +kernel
theorem dX10_go_36 : decode cX10_go 36 = .ok (.iconst 0, 1) := by decide +kernel
theorem dX10_go_37 : decode cX10_go 37 = .ok (.iastore, 1) := by decide +kernel
theorem dX10_go_38 : decode cX10_go 38 = .ok (.aload_n 0, 1) := by decide +kernel
theorem dX10_go_39 : decode cX10_go 39 = .ok (.getfield 72, 3) := by decide +kernel
theorem dX10_go_42 : decode cX10_go 42 = .ok (.iload 6, 2) := by decide +kernel
theorem dX10_go_44 : decode cX10_go 44 = .ok (.iconst 0, 1) := by decide +kernel
theorem dX10_go_45 : decode cX10_go 45 = .ok (.iastore, 1) := by decide +kernel
theorem dX10_go_46 : decode cX10_go 46 = .ok (.aload_n 0, 1) := by decide +kernel
theorem dX10_go_47 : decode cX10_go 47 = .ok (.getfield 75, 3) := by decide +kernel
theorem dX10_go_50 : decode cX10_go 50 = .ok (.iload 6, 2) := by decide +kernel
theorem dX10_go_52 : decode cX10_go 52 = .ok (.iconst 0, 1) := by decide +kernel
theorem dX10_go_53 : decode cX10_go 53 = .ok (.iastore, 1) := by decide +kernel
theorem dX10_go_54 : decode cX10_go 54 = .ok (.aload_n 0, 1) := by decide +kernel
theorem dX10_go_55 : decode cX10_go 55 = .ok (.getfield 78, 3) := by decide +kernel
theorem dX10_go_58 : decode cX10_go 58 = .ok (.iload 6, 2) := by decide +kernel
theorem dX10_go_60 : decode cX10_go 60 = .ok (.iconst 0, 1) := by decide +kernel
theorem dX10_go_61 : decode cX10_go 61 = .ok (.bastore, 1) := by decide +kernel
theorem dX10_go_62 : decode cX10_go 62 = .ok (.iinc 6 1, 3) := by decide +kernel
theorem dX10_go_65 : decode cX10_go 65 = .ok (.goto (-41), 3) := by decide +kernel
theorem dX10_go_68 : decode cX10_go 68 = .ok (.iconst 0, 1) := by decide +kernel
theorem dX10_go_69 : decode cX10_go 69 = .ok (.istore 6, 2) := by decide +kernel
theorem dX10_go_71 : decode cX10_go 71 = .ok (.iload 6, 2) := by decide +kernel
theorem dX10_go_73 : decode cX10_go 73 = .ok (.iconst 5, 1) := by decide +kernel
theorem dX10_go_74 : decode cX10_go 74 = .ok (.if_icmp .ge 17, 3) := by decide +kernel
theorem dX10_go_77 : decode cX10_go 77 = .ok (.aload_n 0, 1) := by decide +kernel
theorem dX10_go_78 : decode cX10_go 78 = .ok (.getfield 93, 3) := by decide +kernel
theorem dX10_go_81 : decode cX10_go 81 = .ok (.iload 6, 2) := by decide +kernel
theorem dX10_go_83 : decode cX10_go 83 = .ok (.iconst 0, 1) := by decide +kernel
theorem dX10_go_84 : decode cX10_go 84 = .ok (.iastore, 1) := by decide +kernel
theorem dX10_go_85 : decode cX10_go 85 = .ok (.iinc 6 1, 3) := by decide +kernel
theorem dX10_go_88 : decode cX10_go 88 = .ok (.goto (-17), 3) := by decide +kernel
theorem dX10_go_91 : decode cX10_go 91 = .ok (.iconst 0, 1) := by decide +kernel
theorem dX10_go_92 : decode cX10_go 92 = .ok (.istore 6, 2) := by decide +kernel
theorem dX10_go_94 : decode cX10_go 94 = .ok (.iload 6, 2) := by decide +kernel
theorem dX10_go_96 : decode cX10_go 96 = .ok (.bipush 80, 2) := by decide +kernel
theorem dX10_go_98 : decode cX10_go 98 = .ok (.if_icmp .ge 36, 3) := by decide +kernel
theorem dX10_go_101 : decode cX10_go 101 = .ok (.aload_n 0, 1) := by decide +kernel
theorem dX10_go_102 : decode cX10_go 102 = .ok (.getfield 84, 3) := by decide +kernel
theorem dX10_go_105 : decode cX10_go 105 = .ok (.iload 6, 2) := by decide +kernel
theorem dX10_go_107 : decode cX10_go 107 = .ok (.iconst 3, 1) := by decide +kernel
theorem dX10_go_108 : decode cX10_go 108 = .ok (.iastore, 1) := by decide +kernel
theorem dX10_go_109 : decode cX10_go 109 = .ok (.aload_n 0, 1) := by decide +kernel
theorem dX10_go_110 : decode cX10_go 110 = .ok (.getfield 87, 3) := by decide +kernel
theorem dX10_go_113 : decode cX10_go 113 = .ok (.iload 6, 2) := by decide +kernel
theorem dX10_go_115 : decode cX10_go 115 = .ok (.sipush 400, 3) := by decide +kernel
theorem dX10_go_118 : decode cX10_go 118 = .ok (.iastore, 1) := by decide +kernel
theorem dX10_go_119 : decode cX10_go 119 = .ok (.aload_n 0, 1) := by decide +kernel
theorem dX10_go_120 : decode cX10_go 120 = .ok (.getfield 90, 3) := by decide +kernel
theorem dX10_go_123 : decode cX10_go 123 = .ok (.iload 6, 2) := by decide +kernel
theorem dX10_go_125 : decode cX10_go 125 = .ok (.bipush (-2), 2) := by decide +kernel
theorem dX10_go_127 : decode cX10_go 127 = .ok (.iastore, 1) := by decide +kernel
theorem dX10_go_128 : decode cX10_go 128 = .ok (.iinc 6 1, 3) := by decide +kernel
theorem dX10_go_131 : decode cX10_go 131 = .ok (.goto (-37), 3) := by decide +kernel
theorem dX10_go_134 : decode cX10_go 134 = .ok (.aload_n 0, 1) := by decide +kernel
theorem dX10_go_135 : decode cX10_go 135 = .ok (.iconst 0, 1) := by decide +kernel
theorem dX10_go_136 : decode cX10_go 136 = .ok (.putfield 148, 3) := by decide +kernel
theorem dX10_go_139 : decode cX10_go 139 = .ok (.iconst 0, 1) := by decide +kernel
theorem dX10_go_140 : decode cX10_go 140 = .ok (.istore 6, 2) := by decide +kernel
theorem dX10_go_142 : decode cX10_go 142 = .ok (.aload_n 0, 1) := by decide +kernel
theorem dX10_go_143 : decode cX10_go 143 = .ok (.getfield 148, 3) := by decide +kernel
theorem dX10_go_146 : decode cX10_go 146 = .ok (.sipush 400, 3) := by decide +kernel
theorem dX10_go_149 : decode cX10_go 149 = .ok (.if_icmp .ge 107, 3) := by decide +kernel
theorem dX10_go_152 : decode cX10_go 152 = .ok (.aload_n 0, 1) := by decide +kernel
theorem dX10_go_153 : decode cX10_go 153 = .ok (.invokevirtual 188, 3) := by decide +kernel
theorem dX10_go_156 : decode cX10_go 156 = .ok (.ifCond .eq 100, 3) := by decide +kernel
theorem dX10_go_159 : decode cX10_go 159 = .ok (.aload_n 0, 1) := by decide +kernel
theorem dX10_go_160 : decode cX10_go 160 = .ok (.invokevirtual 192, 3) := by decide +kernel
theorem dX10_go_163 : decode cX10_go 163 = .ok (.iload 6, 2) := by decide +kernel
theorem dX10_go_165 : decode cX10_go 165 = .ok (.aload_n 0, 1) := by decide +kernel
theorem dX10_go_166 : decode cX10_go 166 = .ok (.getfield 53, 3) := by decide +kernel
theorem dX10_go_169 : decode cX10_go 169 = .ok (.aload_n 0, 1) := by decide +kernel
theorem dX10_go_170 : decode cX10_go 170 = .ok (.getfield 170, 3) := by decide +kernel
theorem dX10_go_173 : decode cX10_go 173 = .ok (.iaload, 1) := by decide +kernel
theorem dX10_go_174 : decode cX10_go 174 = .ok (.if_icmp .ge 59, 3) := by decide +kernel
theorem dX10_go_177 : decode cX10_go 177 = .ok (.aload_n 0, 1) := by decide +kernel
theorem dX10_go_178 : decode cX10_go 178 = .ok (.getfield 56, 3) := by decide +kernel
theorem dX10_go_181 : decode cX10_go 181 = .ok (.bipush 80, 2) := by decide +kernel
theorem dX10_go_183 : decode cX10_go 183 = .ok (.aload_n 0, 1) := by decide +kernel
theorem dX10_go_184 : decode cX10_go 184 = .ok (.getfield 170, 3) := by decide +kernel
theorem dX10_go_187 : decode cX10_go 187 = .ok (.imul, 1) := by decide +kernel
theorem dX10_go_188 : decode cX10_go 188 = .ok (.iload 6, 2) := by decide +kernel
theorem dX10_go_190 : decode cX10_go 190 = .ok (.iadd, 1) := by decide +kernel
theorem dX10_go_191 : decode cX10_go 191 = .ok (.iaload, 1) := by decide +kernel
theorem dX10_go_192 : decode cX10_go 192 = .ok (.aload_n 0, 1) := by decide +kernel
theorem dX10_go_193 : decode cX10_go 193 = .ok (.getfield 148, 3) := by decide +kernel
theorem dX10_go_196 : decode cX10_go 196 = .ok (.if_icmp .ne 37, 3) := by decide +kernel
theorem dX10_go_199 : decode cX10_go 199 = .ok (.aload_n 0, 1) := by decide +kernel
theorem dX10_go_200 : decode cX10_go 200 = .ok (.aload_n 0, 1) := by decide +kernel
theorem dX10_go_201 : decode cX10_go 201 = .ok (.getfield 59, 3) := by decide +kernel
theorem dX10_go_204 : decode cX10_go 204 = .ok (.bipush 80, 2) := by decide +kernel
theorem dX10_go_206 : decode cX10_go 206 = .ok (.aload_n 0, 1) := by decide +kernel
theorem dX10_go_207 : decode cX10_go 207 = .ok (.getfield 170, 3) := by decide +kernel
theorem dX10_go_210 : decode cX10_go 210 = .ok (.imul, 1) := by decide +kernel
theorem dX10_go_211 : decode cX10_go 211 = .ok (.iload 6, 2) := by decide +kernel
theorem dX10_go_213 : decode cX10_go 213 = .ok (.iadd, 1) := by decide +kernel
theorem dX10_go_214 : decode cX10_go 214 = .ok (.iaload, 1) := by decide +kernel
theorem dX10_go_215 : decode cX10_go 215 = .ok (.invokevirtual 177, 3) := by decide +kernel
theorem dX10_go_218 : decode cX10_go 218 = .ok (.ifCond .ne 9, 3) := by decide +kernel
theorem dX10_go_221 : decode cX10_go 221 = .ok (.aload_n 0, 1) := by decide +kernel
theorem dX10_go_222 : decode cX10_go 222 = .ok (.iload 6, 2) := by decide +kernel
theorem dX10_go_224 : decode cX10_go 224 = .ok (.invokevirtual 184, 3) := by decide +kernel
theorem dX10_go_227 : decode cX10_go 227 = .ok (.iinc 6 1, 3) := by decide +kernel
theorem dX10_go_230 : decode cX10_go 230 = .ok (.goto (-67), 3) := by decide +kernel
theorem dX10_go_233 : decode cX10_go 233 = .ok (.aload_n 0, 1) := by decide +kernel
theorem dX10_go_234 : decode cX10_go 234 = .ok (.invokevirtual 195, 3) := by decide +kernel
theorem dX10_go_237 : decode cX10_go 237 = .ok (.aload_n 0, 1) := by decide +kernel
theorem dX10_go_238 : decode cX10_go 238 = .ok (.iload 5, 2) := by decide +kernel
theorem dX10_go_240 : decode cX10_go 240 = .ok (.invokevirtual 198, 3) := by decide +kernel
theorem dX10_go_243 : decode cX10_go 243 = .ok (.aload_n 0, 1) := by decide +kernel
theorem dX10_go_244 : decode cX10_go 244 = .ok (.dup, 1) := by decide +kernel
theorem dX10_go_245 : decode cX10_go 245 = .ok (.getfield 148, 3) := by decide +kernel
theorem dX10_go_248 : decode cX10_go 248 = .ok (.iconst 1, 1) := by decide +kernel
theorem dX10_go_249 : decode cX10_go 249 = .ok (.iadd, 1) := by decide +kernel
theorem dX10_go_250 : decode cX10_go 250 = .ok (.putfield 148, 3) := by decide +kernel
theorem dX10_go_253 : decode cX10_go 253 = .ok (.goto (-111), 3) := by decide +kernel
theorem dX10_go_256 : decode cX10_go 256 = .ok (.return_, 1) := by decide +kernel
theorem dX10_countSent_0 : decode cX10_countSent 0 = .ok (.iconst 0, 1) := by decide +kernel
theorem dX10_countSent_1 : decode cX10_countSent 1 = .ok (.istore_n 1, 1) := by decide +kernel
theorem dX10_countSent_2 : decode cX10_countSent 2 = .ok (.iconst 0, 1) := by decide +kernel
theorem dX10_countSent_3 : decode cX10_countSent 3 = .ok (.istore_n 2, 1) := by decide +kernel
theorem dX10_countSent_4 : decode cX10_countSent 4 = .ok (.iload_n 2, 1) := by decide +kernel
theorem dX10_countSent_5 : decode cX10_countSent 5 = .ok (.aload_n 0, 1) := by decide +kernel
theorem dX10_countSent_6 : decode cX10_countSent 6 = .ok (.getfield 53, 3) := by decide +kernel
theorem dX10_countSent_9 : decode cX10_countSent 9 = .ok (.aload_n 0, 1) := by decide +kernel
theorem dX10_countSent_10 : decode cX10_countSent 10 = .ok (.getfield 170, 3) := by decide +kernel
theorem dX10_countSent_13 : decode cX10_countSent 13 = .ok (.iaload, 1) := by decide +kernel
theorem dX10_countSent_14 : decode cX10_countSent 14 = .ok (.if_icmp .ge 26, 3) := by decide +kernel
theorem dX10_countSent_17 : decode cX10_countSent 17 = .ok (.iload_n 1, 1) := by decide +kernel
theorem dX10_countSent_18 : decode cX10_countSent 18 = .ok (.aload_n 0, 1) := by decide +kernel
theorem dX10_countSent_19 : decode cX10_countSent 19 = .ok (.getfield 84, 3) := by decide +kernel
theorem dX10_countSent_22 : decode cX10_countSent 22 = .ok (.iload_n 2, 1) := by decide +kernel
theorem dX10_countSent_23 : decode cX10_countSent 23 = .ok (.iaload, 1) := by decide +kernel
theorem dX10_countSent_24 : decode cX10_countSent 24 = .ok (.ifCond .ne 7, 3) := by decide +kernel
theorem dX10_countSent_27 : decode cX10_countSent 27 = .ok (.iconst 1, 1) := by decide +kernel
theorem dX10_countSent_28 : decode cX10_countSent 28 = .ok (.goto 4, 3) := by decide +kernel
theorem dX10_countSent_31 : decode cX10_countSent 31 = .ok (.iconst 0, 1) := by decide +kernel
theorem dX10_countSent_32 : decode cX10_countSent 32 = .ok (.iadd, 1) := by decide +kernel
theorem dX10_countSent_33 : decode cX10_countSent 33 = .ok (.istore_n 1, 1) := by decide +kernel
theorem dX10_countSent_34 : decode cX10_countSent 34 = .ok (.iinc 2 1, 3) := by decide +kernel
theorem dX10_countSent_37 : decode cX10_countSent 37 = .ok (.goto (-33), 3) := by decide +kernel
theorem dX10_countSent_40 : decode cX10_countSent 40 = .ok (.iload_n 1, 1) := by decide +kernel
theorem dX10_countSent_41 : decode cX10_countSent 41 = .ok (.ireturn, 1) := by decide +kernel
theorem dX10_run_0 : decode cX10_run 0 = .ok (.iload_n 1, 1) := by decide +kernel
theorem dX10_run_1 : decode cX10_run 1 = .ok (.invokestatic 141, 3) := by decide +kernel
theorem dX10_run_4 : decode cX10_run 4 = .ok (.ifCond .eq 12, 3) := by decide +kernel
theorem dX10_run_7 : decode cX10_run 7 = .ok (.iload_n 2, 1) := by decide +kernel
theorem dX10_run_8 : decode cX10_run 8 = .ok (.iconst 0, 1) := by decide +kernel
theorem dX10_run_9 : decode cX10_run 9 = .ok (.iconst 3, 1) := by decide +kernel
theorem dX10_run_10 : decode cX10_run 10 = .ok (.invokestatic 123, 3) := by decide +kernel
theorem dX10_run_13 : decode cX10_run 13 = .ok (.ifCond .ne 5, 3) := by decide +kernel
theorem dX10_run_16 : decode cX10_run 16 = .ok (.iconst (-1), 1) := by decide +kernel
theorem dX10_run_17 : decode cX10_run 17 = .ok (.ireturn, 1) := by decide +kernel
theorem dX10_run_18 : decode cX10_run 18 = .ok (.iconst 0, 1) := by decide +kernel
theorem dX10_run_19 : decode cX10_run 19 = .ok (.istore_n 3, 1) := by decide +kernel
theorem dX10_run_20 : decode cX10_run 20 = .ok (.iload_n 3, 1) := by decide +kernel
theorem dX10_run_21 : decode cX10_run 21 = .ok (.sipush 1600, 3) := by decide +kernel
theorem dX10_run_24 : decode cX10_run 24 = .ok (.if_icmp .ge 16, 3) := by decide +kernel
theorem dX10_run_27 : decode cX10_run 27 = .ok (.aload_n 0, 1) := by decide +kernel
theorem dX10_run_28 : decode cX10_run 28 = .ok (.getfield 96, 3) := by decide +kernel
theorem dX10_run_31 : decode cX10_run 31 = .ok (.iload_n 3, 1) := by decide +kernel
theorem dX10_run_32 : decode cX10_run 32 = .ok (.iconst 0, 1) := by decide +kernel
theorem dX10_run_33 : decode cX10_run 33 = .ok (.iastore, 1) := by decide +kernel
theorem dX10_run_34 : decode cX10_run 34 = .ok (.iinc 3 1, 3) := by decide +kernel
theorem dX10_run_37 : decode cX10_run 37 = .ok (.goto (-17), 3) := by decide +kernel
theorem dX10_run_40 : decode cX10_run 40 = .ok (.aload_n 0, 1) := by decide +kernel
theorem dX10_run_41 : decode cX10_run 41 = .ok (.iload_n 1, 1) := by decide +kernel
theorem dX10_run_42 : decode cX10_run 42 = .ok (.iload_n 2, 1) := by decide +kernel
theorem dX10_run_43 : decode cX10_run 43 = .ok (.aload_n 0, 1) := by decide +kernel
theorem dX10_run_44 : decode cX10_run 44 = .ok (.getfield 38, 3) := by decide +kernel
theorem dX10_run_47 : decode cX10_run 47 = .ok (.iconst 0, 1) := by decide +kernel
theorem dX10_run_48 : decode cX10_run 48 = .ok (.iconst 1, 1) := by decide +kernel
theorem dX10_run_49 : decode cX10_run 49 = .ok (.invokevirtual 202, 3) := by decide +kernel
theorem dX10_run_52 : decode cX10_run 52 = .ok (.aload_n 0, 1) := by decide +kernel
theorem dX10_run_53 : decode cX10_run 53 = .ok (.iconst 1, 1) := by decide +kernel
theorem dX10_run_54 : decode cX10_run 54 = .ok (.putfield 206, 3) := by decide +kernel
theorem dX10_run_57 : decode cX10_run 57 = .ok (.aload_n 0, 1) := by decide +kernel
theorem dX10_run_58 : decode cX10_run 58 = .ok (.aload_n 0, 1) := by decide +kernel
theorem dX10_run_59 : decode cX10_run 59 = .ok (.getfield 53, 3) := by decide +kernel
theorem dX10_run_62 : decode cX10_run 62 = .ok (.iload_n 1, 1) := by decide +kernel
theorem dX10_run_63 : decode cX10_run 63 = .ok (.iaload, 1) := by decide +kernel
theorem dX10_run_64 : decode cX10_run 64 = .ok (.putfield 209, 3) := by decide +kernel
theorem dX10_run_67 : decode cX10_run 67 = .ok (.aload_n 0, 1) := by decide +kernel
theorem dX10_run_68 : decode cX10_run 68 = .ok (.aload_n 0, 1) := by decide +kernel
theorem dX10_run_69 : decode cX10_run 69 = .ok (.getfield 148, 3) := by decide +kernel
theorem dX10_run_72 : decode cX10_run 72 = .ok (.putfield 212, 3) := by decide +kernel
theorem dX10_run_75 : decode cX10_run 75 = .ok (.iconst 0, 1) := by decide +kernel
theorem dX10_run_76 : decode cX10_run 76 = .ok (.istore_n 3, 1) := by decide +kernel
theorem dX10_run_77 : decode cX10_run 77 = .ok (.iload_n 3, 1) := by decide +kernel
theorem dX10_run_78 : decode cX10_run 78 = .ok (.aload_n 0, 1) := by decide +kernel
theorem dX10_run_79 : decode cX10_run 79 = .ok (.getfield 209, 3) := by decide +kernel
theorem dX10_run_82 : decode cX10_run 82 = .ok (.if_icmp .ge 62, 3) := by decide +kernel
theorem dX10_run_85 : decode cX10_run 85 = .ok (.aload_n 0, 1) := by decide +kernel
theorem dX10_run_86 : decode cX10_run 86 = .ok (.getfield 99, 3) := by decide +kernel
theorem dX10_run_89 : decode cX10_run 89 = .ok (.iload_n 3, 1) := by decide +kernel
theorem dX10_run_90 : decode cX10_run 90 = .ok (.aload_n 0, 1) := by decide +kernel
theorem dX10_run_91 : decode cX10_run 91 = .ok (.getfield 84, 3) := by decide +kernel
theorem dX10_run_94 : decode cX10_run 94 = .ok (.iload_n 3, 1) := by decide +kernel
theorem dX10_run_95 : decode cX10_run 95 = .ok (.iaload, 1) := by decide +kernel
theorem dX10_run_96 : decode cX10_run 96 = .ok (.iastore, 1) := by decide +kernel
theorem dX10_run_97 : decode cX10_run 97 = .ok (.aload_n 0, 1) := by decide +kernel
theorem dX10_run_98 : decode cX10_run 98 = .ok (.getfield 102, 3) := by decide +kernel
theorem dX10_run_101 : decode cX10_run 101 = .ok (.iload_n 3, 1) := by decide +kernel
theorem dX10_run_102 : decode cX10_run 102 = .ok (.aload_n 0, 1) := by decide +kernel
theorem dX10_run_103 : decode cX10_run 103 = .ok (.getfield 87, 3) := by decide +kernel
theorem dX10_run_106 : decode cX10_run 106 = .ok (.iload_n 3, 1) := by decide +kernel
theorem dX10_run_107 : decode cX10_run 107 = .ok (.iaload, 1) := by decide +kernel
theorem dX10_run_108 : decode cX10_run 108 = .ok (.iastore, 1) := by decide +kernel
theorem dX10_run_109 : decode cX10_run 109 = .ok (.aload_n 0, 1) := by decide +kernel
theorem dX10_run_110 : decode cX10_run 110 = .ok (.getfield 105, 3) := by decide +kernel
theorem dX10_run_113 : decode cX10_run 113 = .ok (.iload_n 3, 1) := by decide +kernel
theorem dX10_run_114 : decode cX10_run 114 = .ok (.aload_n 0, 1) := by decide +kernel
theorem dX10_run_115 : decode cX10_run 115 = .ok (.getfield 90, 3) := by decide +kernel
theorem dX10_run_118 : decode cX10_run 118 = .ok (.iload_n 3, 1) := by decide +kernel
theorem dX10_run_119 : decode cX10_run 119 = .ok (.iaload, 1) := by decide +kernel
theorem dX10_run_120 : decode cX10_run 120 = .ok (.iastore, 1) := by decide +kernel
theorem dX10_run_121 : decode cX10_run 121 = .ok (.aload_n 0, 1) := by decide +kernel
theorem dX10_run_122 : decode cX10_run 122 = .ok (.getfield 108, 3) := by decide +kernel
theorem dX10_run_125 : decode cX10_run 125 = .ok (.iload_n 3, 1) := by decide +kernel
theorem dX10_run_126 : decode cX10_run 126 = .ok (.aload_n 0, 1) := by decide +kernel
theorem dX10_run_127 : decode cX10_run 127 = .ok (.getfield 59, 3) := by decide +kernel
theorem dX10_run_130 : decode cX10_run 130 = .ok (.bipush 80, 2) := by decide +kernel
theorem dX10_run_132 : decode cX10_run 132 = .ok (.iload_n 1, 1) := by decide +kernel
theorem dX10_run_133 : decode cX10_run 133 = .ok (.imul, 1) := by decide +kernel
theorem dX10_run_134 : decode cX10_run 134 = .ok (.iload_n 3, 1) := by decide +kernel
theorem dX10_run_135 : decode cX10_run 135 = .ok (.iadd, 1) := by decide +kernel
theorem dX10_run_136 : decode cX10_run 136 = .ok (.iaload, 1) := by decide +kernel
theorem dX10_run_137 : decode cX10_run 137 = .ok (.iastore, 1) := by decide +kernel
theorem dX10_run_138 : decode cX10_run 138 = .ok (.iinc 3 1, 3) := by decide +kernel
theorem dX10_run_141 : decode cX10_run 141 = .ok (.goto (-64), 3) := by decide +kernel
theorem dX10_run_144 : decode cX10_run 144 = .ok (.iconst 0, 1) := by decide +kernel
theorem dX10_run_145 : decode cX10_run 145 = .ok (.istore_n 3, 1) := by decide +kernel
theorem dX10_run_146 : decode cX10_run 146 = .ok (.iload_n 3, 1) := by decide +kernel
theorem dX10_run_147 : decode cX10_run 147 = .ok (.iconst 5, 1) := by decide +kernel
theorem dX10_run_148 : decode cX10_run 148 = .ok (.if_icmp .ge 21, 3) := by decide +kernel
theorem dX10_run_151 : decode cX10_run 151 = .ok (.aload_n 0, 1) := by decide +kernel
theorem dX10_run_152 : decode cX10_run 152 = .ok (.getfield 111, 3) := by decide +kernel
theorem dX10_run_155 : decode cX10_run 155 = .ok (.iload_n 3, 1) := by decide +kernel
theorem dX10_run_156 : decode cX10_run 156 = .ok (.aload_n 0, 1) := by decide +kernel
theorem dX10_run_157 : decode cX10_run 157 = .ok (.getfield 93, 3) := by decide +kernel
theorem dX10_run_160 : decode cX10_run 160 = .ok (.iload_n 3, 1) := by decide +kernel
theorem dX10_run_161 : decode cX10_run 161 = .ok (.iaload, 1) := by decide +kernel
theorem dX10_run_162 : decode cX10_run 162 = .ok (.iastore, 1) := by decide +kernel
theorem dX10_run_163 : decode cX10_run 163 = .ok (.iinc 3 1, 3) := by decide +kernel
theorem dX10_run_166 : decode cX10_run 166 = .ok (.goto (-20), 3) := by decide +kernel
theorem dX10_run_169 : decode cX10_run 169 = .ok (.aload_n 0, 1) := by decide +kernel
theorem dX10_run_170 : decode cX10_run 170 = .ok (.invokevirtual 215, 3) := by decide +kernel
theorem dX10_run_173 : decode cX10_run 173 = .ok (.ireturn, 1) := by decide +kernel
theorem dX10_fate_0 : decode cX10_fate 0 = .ok (.aload_n 0, 1) := by decide +kernel
theorem dX10_fate_1 : decode cX10_fate 1 = .ok (.getfield 206, 3) := by decide +kernel
theorem dX10_fate_4 : decode cX10_fate 4 = .ok (.ifCond .eq 26, 3) := by decide +kernel
theorem dX10_fate_7 : decode cX10_fate 7 = .ok (.iload_n 1, 1) := by decide +kernel
theorem dX10_fate_8 : decode cX10_fate 8 = .ok (.iconst 0, 1) := by decide +kernel
theorem dX10_fate_9 : decode cX10_fate 9 = .ok (.aload_n 0, 1) := by decide +kernel
theorem dX10_fate_10 : decode cX10_fate 10 = .ok (.getfield 209, 3) := by decide +kernel
theorem dX10_fate_13 : decode cX10_fate 13 = .ok (.iconst 1, 1) := by decide +kernel
theorem dX10_fate_14 : decode cX10_fate 14 = .ok (.isub, 1) := by decide +kernel
theorem dX10_fate_15 : decode cX10_fate 15 = .ok (.invokestatic 123, 3) := by decide +kernel
theorem dX10_fate_18 : decode cX10_fate 18 = .ok (.ifCond .eq 12, 3) := by decide +kernel
theorem dX10_fate_21 : decode cX10_fate 21 = .ok (.iload_n 2, 1) := by decide +kernel
theorem dX10_fate_22 : decode cX10_fate 22 = .ok (.iconst 0, 1) := by decide +kernel
theorem dX10_fate_23 : decode cX10_fate 23 = .ok (.iconst 2, 1) := by decide +kernel
theorem dX10_fate_24 : decode cX10_fate 24 = .ok (.invokestatic 123, 3) := by decide +kernel
theorem dX10_fate_27 : decode cX10_fate 27 = .ok (.ifCond .ne 5, 3) := by decide +kernel
theorem dX10_fate_30 : decode cX10_fate 30 = .ok (.iconst (-1), 1) := by decide +kernel
theorem dX10_fate_31 : decode cX10_fate 31 = .ok (.ireturn, 1) := by decide +kernel
theorem dX10_fate_32 : decode cX10_fate 32 = .ok (.iload_n 2, 1) := by decide +kernel
theorem dX10_fate_33 : decode cX10_fate 33 = .ok (.ifCond .ne 12, 3) := by decide +kernel
theorem dX10_fate_36 : decode cX10_fate 36 = .ok (.aload_n 0, 1) := by decide +kernel
theorem dX10_fate_37 : decode cX10_fate 37 = .ok (.getfield 99, 3) := by decide +kernel
theorem dX10_fate_40 : decode cX10_fate 40 = .ok (.iload_n 1, 1) := by decide +kernel
theorem dX10_fate_41 : decode cX10_fate 41 = .ok (.iaload, 1) := by decide +kernel
theorem dX10_fate_42 : decode cX10_fate 42 = .ok (.goto 23, 3) := by decide +kernel
theorem dX10_fate_45 : decode cX10_fate 45 = .ok (.iload_n 2, 1) := by decide +kernel
theorem dX10_fate_46 : decode cX10_fate 46 = .ok (.iconst 1, 1) := by decide +kernel
theorem dX10_fate_47 : decode cX10_fate 47 = .ok (.if_icmp .ne 12, 3) := by decide +kernel
theorem dX10_fate_50 : decode cX10_fate 50 = .ok (.aload_n 0, 1) := by decide +kernel
theorem dX10_fate_51 : decode cX10_fate 51 = .ok (.getfield 102, 3) := by decide +kernel
theorem dX10_fate_54 : decode cX10_fate 54 = .ok (.iload_n 1, 1) := by decide +kernel
theorem dX10_fate_55 : decode cX10_fate 55 = .ok (.iaload, 1) := by decide +kernel
theorem dX10_fate_56 : decode cX10_fate 56 = .ok (.goto 9, 3) := by decide +kernel
theorem dX10_fate_59 : decode cX10_fate 59 = .ok (.aload_n 0, 1) := by decide +kernel
theorem dX10_fate_60 : decode cX10_fate 60 = .ok (.getfield 105, 3) := by decide +kernel
theorem dX10_fate_63 : decode cX10_fate 63 = .ok (.iload_n 1, 1) := by decide +kernel
theorem dX10_fate_64 : decode cX10_fate 64 = .ok (.iaload, 1) := by decide +kernel
theorem dX10_fate_65 : decode cX10_fate 65 = .ok (.ireturn, 1) := by decide +kernel
theorem dX10_sum_0 : decode cX10_sum 0 = .ok (.aload_n 0, 1) := by decide +kernel
theorem dX10_sum_1 : decode cX10_sum 1 = .ok (.getfield 206, 3) := by decide +kernel
theorem dX10_sum_4 : decode cX10_sum 4 = .ok (.ifCond .eq 25, 3) := by decide +kernel
theorem dX10_sum_7 : decode cX10_sum 7 = .ok (.iload_n 1, 1) := by decide +kernel
theorem dX10_sum_8 : decode cX10_sum 8 = .ok (.iconst (-1), 1) := by decide +kernel
theorem dX10_sum_9 : decode cX10_sum 9 = .ok (.if_icmp .eq 11, 3) := by decide +kernel
theorem dX10_sum_12 : decode cX10_sum 12 = .ok (.aload_n 0, 1) := by decide +kernel
theorem dX10_sum_13 : decode cX10_sum 13 = .ok (.iload_n 1, 1) := by decide +kernel
theorem dX10_sum_14 : decode cX10_sum 14 = .ok (.invokevirtual 131, 3) := by decide +kernel
theorem dX10_sum_17 : decode cX10_sum 17 = .ok (.ifCond .eq 12, 3) := by decide +kernel
theorem dX10_sum_20 : decode cX10_sum 20 = .ok (.iload_n 2, 1) := by decide +kernel
theorem dX10_sum_21 : decode cX10_sum 21 = .ok (.iconst 0, 1) := by decide +kernel
theorem dX10_sum_22 : decode cX10_sum 22 = .ok (.iconst 4, 1) := by decide +kernel
theorem dX10_sum_23 : decode cX10_sum 23 = .ok (.invokestatic 123, 3) := by decide +kernel
theorem dX10_sum_26 : decode cX10_sum 26 = .ok (.ifCond .ne 5, 3) := by decide +kernel
theorem dX10_sum_29 : decode cX10_sum 29 = .ok (.iconst (-1), 1) := by decide +kernel
theorem dX10_sum_30 : decode cX10_sum 30 = .ok (.ireturn, 1) := by decide +kernel
theorem dX10_sum_31 : decode cX10_sum 31 = .ok (.iload_n 2, 1) := by decide +kernel
theorem dX10_sum_32 : decode cX10_sum 32 = .ok (.iconst 4, 1) := by decide +kernel
theorem dX10_sum_33 : decode cX10_sum 33 = .ok (.if_icmp .ne 19, 3) := by decide +kernel
theorem dX10_sum_36 : decode cX10_sum 36 = .ok (.aload_n 0, 1) := by decide +kernel
theorem dX10_sum_37 : decode cX10_sum 37 = .ok (.getfield 111, 3) := by decide +kernel
theorem dX10_sum_40 : decode cX10_sum 40 = .ok (.iload_n 1, 1) := by decide +kernel
theorem dX10_sum_41 : decode cX10_sum 41 = .ok (.iconst (-1), 1) := by decide +kernel
theorem dX10_sum_42 : decode cX10_sum 42 = .ok (.if_icmp .ne 7, 3) := by decide +kernel
theorem dX10_sum_45 : decode cX10_sum 45 = .ok (.iconst 4, 1) := by decide +kernel
theorem dX10_sum_46 : decode cX10_sum 46 = .ok (.goto 4, 3) := by decide +kernel
theorem dX10_sum_49 : decode cX10_sum 49 = .ok (.iload_n 1, 1) := by decide +kernel
theorem dX10_sum_50 : decode cX10_sum 50 = .ok (.iaload, 1) := by decide +kernel
theorem dX10_sum_51 : decode cX10_sum 51 = .ok (.ireturn, 1) := by decide +kernel
theorem dX10_sum_52 : decode cX10_sum 52 = .ok (.iconst 0, 1) := by decide +kernel
theorem dX10_sum_53 : decode cX10_sum 53 = .ok (.istore_n 3, 1) := by decide +kernel
theorem dX10_sum_54 : decode cX10_sum 54 = .ok (.iconst 0, 1) := by decide +kernel
theorem dX10_sum_55 : decode cX10_sum 55 = .ok (.istore 4, 2) := by decide +kernel
theorem dX10_sum_57 : decode cX10_sum 57 = .ok (.iload 4, 2) := by decide +kernel
theorem dX10_sum_59 : decode cX10_sum 59 = .ok (.aload_n 0, 1) := by decide +kernel
theorem dX10_sum_60 : decode cX10_sum 60 = .ok (.getfield 209, 3) := by decide +kernel
theorem dX10_sum_63 : decode cX10_sum 63 = .ok (.if_icmp .ge 44, 3) := by decide +kernel
theorem dX10_sum_66 : decode cX10_sum 66 = .ok (.iload_n 3, 1) := by decide +kernel
theorem dX10_sum_67 : decode cX10_sum 67 = .ok (.aload_n 0, 1) := by decide +kernel
theorem dX10_sum_68 : decode cX10_sum 68 = .ok (.getfield 99, 3) := by decide +kernel
theorem dX10_sum_71 : decode cX10_sum 71 = .ok (.iload 4, 2) := by decide +kernel
theorem dX10_sum_73 : decode cX10_sum 73 = .ok (.iaload, 1) := by decide +kernel
theorem dX10_sum_74 : decode cX10_sum 74 = .ok (.iload_n 2, 1) := by decide +kernel
theorem dX10_sum_75 : decode cX10_sum 75 = .ok (.if_icmp .ne 23, 3) := by decide +kernel
theorem dX10_sum_78 : decode cX10_sum 78 = .ok (.iload_n 1, 1) := by decide +kernel
theorem dX10_sum_79 : decode cX10_sum 79 = .ok (.iconst (-1), 1) := by decide +kernel
theorem dX10_sum_80 : decode cX10_sum 80 = .ok (.if_icmp .eq 14, 3) := by decide +kernel
theorem dX10_sum_83 : decode cX10_sum 83 = .ok (.aload_n 0, 1) := by decide +kernel
theorem dX10_sum_84 : decode cX10_sum 84 = .ok (.getfield 108, 3) := by decide +kernel
theorem dX10_sum_87 : decode cX10_sum 87 = .ok (.iload 4, 2) := by decide +kernel
theorem dX10_sum_89 : decode cX10_sum 89 = .ok (.iaload, 1) := by decide +kernel
theorem dX10_sum_90 : decode cX10_sum 90 = .ok (.iload_n 1, 1) := by decide +kernel
theorem dX10_sum_91 : decode cX10_sum 91 = .ok (.if_icmp .ne 7, 3) := by decide +kernel
theorem dX10_sum_94 : decode cX10_sum 94 = .ok (.iconst 1, 1) := by decide +kernel
theorem dX10_sum_95 : decode cX10_sum 95 = .ok (.goto 4, 3) := by decide +kernel
theorem dX10_sum_98 : decode cX10_sum 98 = .ok (.iconst 0, 1) := by decide +kernel
theorem dX10_sum_99 : decode cX10_sum 99 = .ok (.iadd, 1) := by decide +kernel
theorem dX10_sum_100 : decode cX10_sum 100 = .ok (.istore_n 3, 1) := by decide +kernel
theorem dX10_sum_101 : decode cX10_sum 101 = .ok (.iinc 4 1, 3) := by decide +kernel
theorem dX10_sum_104 : decode cX10_sum 104 = .ok (.goto (-47), 3) := by decide +kernel
theorem dX10_sum_107 : decode cX10_sum 107 = .ok (.iload_n 3, 1) := by decide +kernel
theorem dX10_sum_108 : decode cX10_sum 108 = .ok (.ireturn, 1) := by decide +kernel
theorem dX10_length_0 : decode cX10_length 0 = .ok (.aload_n 0, 1) := by decide +kernel
theorem dX10_length_1 : decode cX10_length 1 = .ok (.getfield 206, 3) := by decide +kernel
theorem dX10_length_4 : decode cX10_length 4 = .ok (.ifCond .eq 37, 3) := by decide +kernel
theorem dX10_length_7 : decode cX10_length 7 = .ok (.aload_n 0, 1) := by decide +kernel
theorem dX10_length_8 : decode cX10_length 8 = .ok (.iload_n 1, 1) := by decide +kernel
theorem dX10_length_9 : decode cX10_length 9 = .ok (.invokevirtual 131, 3) := by decide +kernel
theorem dX10_length_12 : decode cX10_length 12 = .ok (.ifCond .eq 29, 3) := by decide +kernel
theorem dX10_length_15 : decode cX10_length 15 = .ok (.iload_n 2, 1) := by decide +kernel
theorem dX10_length_16 : decode cX10_length 16 = .ok (.iconst 0, 1) := by decide +kernel
theorem dX10_length_17 : decode cX10_length 17 = .ok (.sipush 399, 3) := by decide +kernel
theorem dX10_length_20 : decode cX10_length 20 = .ok (.invokestatic 123, 3) := by decide +kernel
theorem dX10_length_23 : decode cX10_length 23 = .ok (.ifCond .eq 18, 3) := by decide +kernel
theorem dX10_length_26 : decode cX10_length 26 = .ok (.aload_n 0, 1) := by decide +kernel
theorem dX10_length_27 : decode cX10_length 27 = .ok (.getfield 96, 3) := by decide +kernel
theorem dX10_length_30 : decode cX10_length 30 = .ok (.sipush 400, 3) := by decide +kernel
theorem dX10_length_33 : decode cX10_length 33 = .ok (.iload_n 1, 1) := by decide +kernel
theorem dX10_length_34 : decode cX10_length 34 = .ok (.imul, 1) := by decide +kernel
theorem dX10_length_35 : decode cX10_length 35 = .ok (.iload_n 2, 1) := by decide +kernel
theorem dX10_length_36 : decode cX10_length 36 = .ok (.iadd, 1) := by decide +kernel
theorem dX10_length_37 : decode cX10_length 37 = .ok (.iaload, 1) := by decide +kernel
theorem dX10_length_38 : decode cX10_length 38 = .ok (.goto 4, 3) := by decide +kernel
theorem dX10_length_41 : decode cX10_length 41 = .ok (.iconst (-1), 1) := by decide +kernel
theorem dX10_length_42 : decode cX10_length 42 = .ok (.ireturn, 1) := by decide +kernel
theorem dX10_ticks_0 : decode cX10_ticks 0 = .ok (.aload_n 0, 1) := by decide +kernel
theorem dX10_ticks_1 : decode cX10_ticks 1 = .ok (.getfield 206, 3) := by decide +kernel
theorem dX10_ticks_4 : decode cX10_ticks 4 = .ok (.ifCond .eq 10, 3) := by decide +kernel
theorem dX10_ticks_7 : decode cX10_ticks 7 = .ok (.aload_n 0, 1) := by decide +kernel
theorem dX10_ticks_8 : decode cX10_ticks 8 = .ok (.getfield 212, 3) := by decide +kernel
theorem dX10_ticks_11 : decode cX10_ticks 11 = .ok (.goto 4, 3) := by decide +kernel
theorem dX10_ticks_14 : decode cX10_ticks 14 = .ok (.iconst (-1), 1) := by decide +kernel
theorem dX10_ticks_15 : decode cX10_ticks 15 = .ok (.ireturn, 1) := by decide +kernel
theorem dX10_place_0 : decode cX10_place 0 = .ok (.iload_n 0, 1) := by decide +kernel
theorem dX10_place_1 : decode cX10_place 1 = .ok (.ifCond .ne 7, 3) := by decide +kernel
theorem dX10_place_4 : decode cX10_place 4 = .ok (.iconst 1, 1) := by decide +kernel
theorem dX10_place_5 : decode cX10_place 5 = .ok (.goto 27, 3) := by decide +kernel
theorem dX10_place_8 : decode cX10_place 8 = .ok (.iload_n 0, 1) := by decide +kernel
theorem dX10_place_9 : decode cX10_place 9 = .ok (.iconst 1, 1) := by decide +kernel
theorem dX10_place_10 : decode cX10_place 10 = .ok (.if_icmp .ne 8, 3) := by decide +kernel
theorem dX10_place_13 : decode cX10_place 13 = .ok (.bipush 13, 2) := by decide +kernel
theorem dX10_place_15 : decode cX10_place 15 = .ok (.goto 17, 3) := by decide +kernel
theorem dX10_place_18 : decode cX10_place 18 = .ok (.iload_n 0, 1) := by decide +kernel
theorem dX10_place_19 : decode cX10_place 19 = .ok (.iconst 2, 1) := by decide +kernel
theorem dX10_place_20 : decode cX10_place 20 = .ok (.if_icmp .ne 9, 3) := by decide +kernel
theorem dX10_place_23 : decode cX10_place 23 = .ok (.sipush 169, 3) := by decide +kernel
theorem dX10_place_26 : decode cX10_place 26 = .ok (.goto 6, 3) := by decide +kernel
theorem dX10_place_29 : decode cX10_place 29 = .ok (.sipush 2197, 3) := by decide +kernel
theorem dX10_place_32 : decode cX10_place 32 = .ok (.ireturn, 1) := by decide +kernel
theorem dX10_lengthIn_0 : decode cX10_lengthIn 0 = .ok (.iload_n 0, 1) := by decide +kernel
theorem dX10_lengthIn_1 : decode cX10_lengthIn 1 = .ok (.iload_n 1, 1) := by decide +kernel
theorem dX10_lengthIn_2 : decode cX10_lengthIn 2 = .ok (.invokestatic 218, 3) := by decide +kernel
theorem dX10_lengthIn_5 : decode cX10_lengthIn 5 = .ok (.idiv, 1) := by decide +kernel
theorem dX10_lengthIn_6 : decode cX10_lengthIn 6 = .ok (.bipush 13, 2) := by decide +kernel
theorem dX10_lengthIn_8 : decode cX10_lengthIn 8 = .ok (.irem, 1) := by decide +kernel
theorem dX10_lengthIn_9 : decode cX10_lengthIn 9 = .ok (.ireturn, 1) := by decide +kernel
theorem dX10_allIn_0 : decode cX10_allIn 0 = .ok (.iload_n 0, 1) := by decide +kernel
theorem dX10_allIn_1 : decode cX10_allIn 1 = .ok (.bipush 13, 2) := by decide +kernel
theorem dX10_allIn_3 : decode cX10_allIn 3 = .ok (.irem, 1) := by decide +kernel
theorem dX10_allIn_4 : decode cX10_allIn 4 = .ok (.iload_n 0, 1) := by decide +kernel
theorem dX10_allIn_5 : decode cX10_allIn 5 = .ok (.bipush 13, 2) := by decide +kernel
theorem dX10_allIn_7 : decode cX10_allIn 7 = .ok (.idiv, 1) := by decide +kernel
theorem dX10_allIn_8 : decode cX10_allIn 8 = .ok (.bipush 13, 2) := by decide +kernel
theorem dX10_allIn_10 : decode cX10_allIn 10 = .ok (.irem, 1) := by decide +kernel
theorem dX10_allIn_11 : decode cX10_allIn 11 = .ok (.iadd, 1) := by decide +kernel
theorem dX10_allIn_12 : decode cX10_allIn 12 = .ok (.iload_n 0, 1) := by decide +kernel
theorem dX10_allIn_13 : decode cX10_allIn 13 = .ok (.sipush 169, 3) := by decide +kernel
theorem dX10_allIn_16 : decode cX10_allIn 16 = .ok (.idiv, 1) := by decide +kernel
theorem dX10_allIn_17 : decode cX10_allIn 17 = .ok (.bipush 13, 2) := by decide +kernel
theorem dX10_allIn_19 : decode cX10_allIn 19 = .ok (.irem, 1) := by decide +kernel
theorem dX10_allIn_20 : decode cX10_allIn 20 = .ok (.iadd, 1) := by decide +kernel
theorem dX10_allIn_21 : decode cX10_allIn 21 = .ok (.iload_n 0, 1) := by decide +kernel
theorem dX10_allIn_22 : decode cX10_allIn 22 = .ok (.sipush 2197, 3) := by decide +kernel
theorem dX10_allIn_25 : decode cX10_allIn 25 = .ok (.idiv, 1) := by decide +kernel
theorem dX10_allIn_26 : decode cX10_allIn 26 = .ok (.iadd, 1) := by decide +kernel
theorem dX10_allIn_27 : decode cX10_allIn 27 = .ok (.ireturn, 1) := by decide +kernel
theorem dX10_offer_0 : decode cX10_offer 0 = .ok (.sipush 28560, 3) := by decide +kernel
theorem dX10_offer_3 : decode cX10_offer 3 = .ok (.istore_n 2, 1) := by decide +kernel
theorem dX10_offer_4 : decode cX10_offer 4 = .ok (.iload_n 2, 1) := by decide +kernel
theorem dX10_offer_5 : decode cX10_offer 5 = .ok (.ifCond .lt 76, 3) := by decide +kernel
theorem dX10_offer_8 : decode cX10_offer 8 = .ok (.aload_n 0, 1) := by decide +kernel
theorem dX10_offer_9 : decode cX10_offer 9 = .ok (.getfield 114, 3) := by decide +kernel
theorem dX10_offer_12 : decode cX10_offer 12 = .ok (.iload_n 2, 1) := by decide +kernel
theorem dX10_offer_13 : decode cX10_offer 13 = .ok (.iaload, 1) := by decide +kernel
theorem dX10_offer_14 : decode cX10_offer 14 = .ok (.ifCond .lt 61, 3) := by decide +kernel
theorem dX10_offer_17 : decode cX10_offer 17 = .ok (.iload_n 2, 1) := by decide +kernel
theorem dX10_offer_18 : decode cX10_offer 18 = .ok (.invokestatic 221, 3) := by decide +kernel
theorem dX10_offer_21 : decode cX10_offer 21 = .ok (.aload_n 0, 1) := by decide +kernel
theorem dX10_offer_22 : decode cX10_offer 22 = .ok (.getfield 7, 3) := by decide +kernel
theorem dX10_offer_25 : decode cX10_offer 25 = .ok (.if_icmp .ge 50, 3) := by decide +kernel
theorem dX10_offer_28 : decode cX10_offer 28 = .ok (.iload_n 2, 1) := by decide +kernel
theorem dX10_offer_29 : decode cX10_offer 29 = .ok (.iload_n 1, 1) := by decide +kernel
theorem dX10_offer_30 : decode cX10_offer 30 = .ok (.invokestatic 218, 3) := by decide +kernel
theorem dX10_offer_33 : decode cX10_offer 33 = .ok (.iadd, 1) := by decide +kernel
theorem dX10_offer_34 : decode cX10_offer 34 = .ok (.istore_n 3, 1) := by decide +kernel
theorem dX10_offer_35 : decode cX10_offer 35 = .ok (.aload_n 0, 1) := by decide +kernel
theorem dX10_offer_36 : decode cX10_offer 36 = .ok (.getfield 114, 3) := by decide +kernel
theorem dX10_offer_39 : decode cX10_offer 39 = .ok (.iload_n 3, 1) := by decide +kernel
theorem dX10_offer_40 : decode cX10_offer 40 = .ok (.aload_n 0, 1) := by decide +kernel
theorem dX10_offer_41 : decode cX10_offer 41 = .ok (.getfield 114, 3) := by decide +kernel
theorem dX10_offer_44 : decode cX10_offer 44 = .ok (.iload_n 2, 1) := by decide +kernel
theorem dX10_offer_45 : decode cX10_offer 45 = .ok (.iaload, 1) := by decide +kernel
theorem dX10_offer_46 : decode cX10_offer 46 = .ok (.iconst 1, 1) := by decide +kernel
theorem dX10_offer_47 : decode cX10_offer 47 = .ok (.iadd, 1) := by decide +kernel
theorem dX10_offer_48 : decode cX10_offer 48 = .ok (.aload_n 0, 1) := by decide +kernel
theorem dX10_offer_49 : decode cX10_offer 49 = .ok (.getfield 114, 3) := by decide +kernel
theorem dX10_offer_52 : decode cX10_offer 52 = .ok (.iload_n 3, 1) := by decide +kernel
theorem dX10_offer_53 : decode cX10_offer 53 = .ok (.iaload, 1) := by decide +kernel
theorem dX10_offer_54 : decode cX10_offer 54 = .ok (.if_icmp .le 14, 3) := by decide +kernel
theorem dX10_offer_57 : decode cX10_offer 57 = .ok (.aload_n 0, 1) := by decide +kernel
theorem dX10_offer_58 : decode cX10_offer 58 = .ok (.getfield 114, 3) := by decide +kernel
theorem dX10_offer_61 : decode cX10_offer 61 = .ok (.iload_n 2, 1) := by decide +kernel
theorem dX10_offer_62 : decode cX10_offer 62 = .ok (.iaload, 1) := by decide +kernel
theorem dX10_offer_63 : decode cX10_offer 63 = .ok (.iconst 1, 1) := by decide +kernel
theorem dX10_offer_64 : decode cX10_offer 64 = .ok (.iadd, 1) := by decide +kernel
theorem dX10_offer_65 : decode cX10_offer 65 = .ok (.goto 9, 3) := by decide +kernel
theorem dX10_offer_68 : decode cX10_offer 68 = .ok (.aload_n 0, 1) := by decide +kernel
theorem dX10_offer_69 : decode cX10_offer 69 = .ok (.getfield 114, 3) := by decide +kernel
theorem dX10_offer_72 : decode cX10_offer 72 = .ok (.iload_n 3, 1) := by decide +kernel
theorem dX10_offer_73 : decode cX10_offer 73 = .ok (.iaload, 1) := by decide +kernel
theorem dX10_offer_74 : decode cX10_offer 74 = .ok (.iastore, 1) := by decide +kernel
theorem dX10_offer_75 : decode cX10_offer 75 = .ok (.iinc 2 (-1), 3) := by decide +kernel
theorem dX10_offer_78 : decode cX10_offer 78 = .ok (.goto (-74), 3) := by decide +kernel
theorem dX10_offer_81 : decode cX10_offer 81 = .ok (.return_, 1) := by decide +kernel
theorem dX10_serve_0 : decode cX10_serve 0 = .ok (.iconst 0, 1) := by decide +kernel
theorem dX10_serve_1 : decode cX10_serve 1 = .ok (.istore_n 2, 1) := by decide +kernel
theorem dX10_serve_2 : decode cX10_serve 2 = .ok (.iload_n 2, 1) := by decide +kernel
theorem dX10_serve_3 : decode cX10_serve 3 = .ok (.sipush 28561, 3) := by decide +kernel
theorem dX10_serve_6 : decode cX10_serve 6 = .ok (.if_icmp .ge 16, 3) := by decide +kernel
theorem dX10_serve_9 : decode cX10_serve 9 = .ok (.aload_n 0, 1) := by decide +kernel
theorem dX10_serve_10 : decode cX10_serve 10 = .ok (.getfield 117, 3) := by decide +kernel
theorem dX10_serve_13 : decode cX10_serve 13 = .ok (.iload_n 2, 1) := by decide +kernel
theorem dX10_serve_14 : decode cX10_serve 14 = .ok (.iconst (-1), 1) := by decide +kernel
theorem dX10_serve_15 : decode cX10_serve 15 = .ok (.iastore, 1) := by decide +kernel
theorem dX10_serve_16 : decode cX10_serve 16 = .ok (.iinc 2 1, 3) := by decide +kernel
theorem dX10_serve_19 : decode cX10_serve 19 = .ok (.goto (-17), 3) := by decide +kernel
theorem dX10_serve_22 : decode cX10_serve 22 = .ok (.iconst 0, 1) := by decide +kernel
theorem dX10_serve_23 : decode cX10_serve 23 = .ok (.istore_n 2, 1) := by decide +kernel
theorem dX10_serve_24 : decode cX10_serve 24 = .ok (.iload_n 2, 1) := by decide +kernel
theorem dX10_serve_25 : decode cX10_serve 25 = .ok (.sipush 28561, 3) := by decide +kernel
theorem dX10_serve_28 : decode cX10_serve 28 = .ok (.if_icmp .ge 109, 3) := by decide +kernel
theorem dX10_serve_31 : decode cX10_serve 31 = .ok (.aload_n 0, 1) := by decide +kernel
theorem dX10_serve_32 : decode cX10_serve 32 = .ok (.getfield 114, 3) := by decide +kernel
theorem dX10_serve_35 : decode cX10_serve 35 = .ok (.iload_n 2, 1) := by decide +kernel
theorem dX10_serve_36 : decode cX10_serve 36 = .ok (.iaload, 1) := by decide +kernel
theorem dX10_serve_37 : decode cX10_serve 37 = .ok (.ifCond .lt 94, 3) := by decide +kernel
theorem dX10_serve_40 : decode cX10_serve 40 = .ok (.iload_n 2, 1) := by decide +kernel
theorem dX10_serve_41 : decode cX10_serve 41 = .ok (.istore_n 3, 1) := by decide +kernel
theorem dX10_serve_42 : decode cX10_serve 42 = .ok (.iconst 0, 1) := by decide +kernel
theorem dX10_serve_43 : decode cX10_serve 43 = .ok (.istore 4, 2) := by decide +kernel
theorem dX10_serve_45 : decode cX10_serve 45 = .ok (.iload 4, 2) := by decide +kernel
theorem dX10_serve_47 : decode cX10_serve 47 = .ok (.aload_n 0, 1) := by decide +kernel
theorem dX10_serve_48 : decode cX10_serve 48 = .ok (.getfield 13, 3) := by decide +kernel
theorem dX10_serve_51 : decode cX10_serve 51 = .ok (.if_icmp .ge 44, 3) := by decide +kernel
theorem dX10_serve_54 : decode cX10_serve 54 = .ok (.iload_n 3, 1) := by decide +kernel
theorem dX10_serve_55 : decode cX10_serve 55 = .ok (.iload_n 2, 1) := by decide +kernel
theorem dX10_serve_56 : decode cX10_serve 56 = .ok (.iload 4, 2) := by decide +kernel
theorem dX10_serve_58 : decode cX10_serve 58 = .ok (.invokestatic 224, 3) := by decide +kernel
theorem dX10_serve_61 : decode cX10_serve 61 = .ok (.ifCond .le 25, 3) := by decide +kernel
theorem dX10_serve_64 : decode cX10_serve 64 = .ok (.iload_n 1, 1) := by decide +kernel
theorem dX10_serve_65 : decode cX10_serve 65 = .ok (.iconst 1, 1) := by decide +kernel
theorem dX10_serve_66 : decode cX10_serve 66 = .ok (.iadd, 1) := by decide +kernel
theorem dX10_serve_67 : decode cX10_serve 67 = .ok (.aload_n 0, 1) := by decide +kernel
theorem dX10_serve_68 : decode cX10_serve 68 = .ok (.getfield 23, 3) := by decide +kernel
theorem dX10_serve_71 : decode cX10_serve 71 = .ok (.iload 4, 2) := by decide +kernel
theorem dX10_serve_73 : decode cX10_serve 73 = .ok (.iaload, 1) := by decide +kernel
theorem dX10_serve_74 : decode cX10_serve 74 = .ok (.irem, 1) := by decide +kernel
theorem dX10_serve_75 : decode cX10_serve 75 = .ok (.ifCond .ne 11, 3) := by decide +kernel
theorem dX10_serve_78 : decode cX10_serve 78 = .ok (.iload 4, 2) := by decide +kernel
theorem dX10_serve_80 : decode cX10_serve 80 = .ok (.invokestatic 218, 3) := by decide +kernel
theorem dX10_serve_83 : decode cX10_serve 83 = .ok (.goto 4, 3) := by decide +kernel
theorem dX10_serve_86 : decode cX10_serve 86 = .ok (.iconst 0, 1) := by decide +kernel
theorem dX10_serve_87 : decode cX10_serve 87 = .ok (.isub, 1) := by decide +kernel
theorem dX10_serve_88 : decode cX10_serve 88 = .ok (.istore_n 3, 1) := by decide +kernel
theorem dX10_serve_89 : decode cX10_serve 89 = .ok (.iinc 4 1, 3) := by decide +kernel
theorem dX10_serve_92 : decode cX10_serve 92 = .ok (.goto (-47), 3) := by decide +kernel
theorem dX10_serve_95 : decode cX10_serve 95 = .ok (.aload_n 0, 1) := by decide +kernel
theorem dX10_serve_96 : decode cX10_serve 96 = .ok (.getfield 117, 3) := by decide +kernel
theorem dX10_serve_99 : decode cX10_serve 99 = .ok (.iload_n 3, 1) := by decide +kernel
theorem dX10_serve_100 : decode cX10_serve 100 = .ok (.aload_n 0, 1) := by decide +kernel
theorem dX10_serve_101 : decode cX10_serve 101 = .ok (.getfield 114, 3) := by decide +kernel
theorem dX10_serve_104 : decode cX10_serve 104 = .ok (.iload_n 2, 1) := by decide +kernel
theorem dX10_serve_105 : decode cX10_serve 105 = .ok (.iaload, 1) := by decide +kernel
theorem dX10_serve_106 : decode cX10_serve 106 = .ok (.aload_n 0, 1) := by decide +kernel
theorem dX10_serve_107 : decode cX10_serve 107 = .ok (.getfield 117, 3) := by decide +kernel
theorem dX10_serve_110 : decode cX10_serve 110 = .ok (.iload_n 3, 1) := by decide +kernel
theorem dX10_serve_111 : decode cX10_serve 111 = .ok (.iaload, 1) := by decide +kernel
theorem dX10_serve_112 : decode cX10_serve 112 = .ok (.if_icmp .le 12, 3) := by decide +kernel
theorem dX10_serve_115 : decode cX10_serve 115 = .ok (.aload_n 0, 1) := by decide +kernel
theorem dX10_serve_116 : decode cX10_serve 116 = .ok (.getfield 114, 3) := by decide +kernel
theorem dX10_serve_119 : decode cX10_serve 119 = .ok (.iload_n 2, 1) := by decide +kernel
theorem dX10_serve_120 : decode cX10_serve 120 = .ok (.iaload, 1) := by decide +kernel
theorem dX10_serve_121 : decode cX10_serve 121 = .ok (.goto 9, 3) := by decide +kernel
theorem dX10_serve_124 : decode cX10_serve 124 = .ok (.aload_n 0, 1) := by decide +kernel
theorem dX10_serve_125 : decode cX10_serve 125 = .ok (.getfield 117, 3) := by decide +kernel
theorem dX10_serve_128 : decode cX10_serve 128 = .ok (.iload_n 3, 1) := by decide +kernel
theorem dX10_serve_129 : decode cX10_serve 129 = .ok (.iaload, 1) := by decide +kernel
theorem dX10_serve_130 : decode cX10_serve 130 = .ok (.iastore, 1) := by decide +kernel
theorem dX10_serve_131 : decode cX10_serve 131 = .ok (.iinc 2 1, 3) := by decide +kernel
theorem dX10_serve_134 : decode cX10_serve 134 = .ok (.goto (-110), 3) := by decide +kernel
theorem dX10_serve_137 : decode cX10_serve 137 = .ok (.iconst 0, 1) := by decide +kernel
theorem dX10_serve_138 : decode cX10_serve 138 = .ok (.istore_n 2, 1) := by decide +kernel
theorem dX10_serve_139 : decode cX10_serve 139 = .ok (.iload_n 2, 1) := by decide +kernel
theorem dX10_serve_140 : decode cX10_serve 140 = .ok (.sipush 28561, 3) := by decide +kernel
theorem dX10_serve_143 : decode cX10_serve 143 = .ok (.if_icmp .ge 21, 3) := by decide +kernel
theorem dX10_serve_146 : decode cX10_serve 146 = .ok (.aload_n 0, 1) := by decide +kernel
theorem dX10_serve_147 : decode cX10_serve 147 = .ok (.getfield 114, 3) := by decide +kernel
theorem dX10_serve_150 : decode cX10_serve 150 = .ok (.iload_n 2, 1) := by decide +kernel
theorem dX10_serve_151 : decode cX10_serve 151 = .ok (.aload_n 0, 1) := by decide +kernel
theorem dX10_serve_152 : decode cX10_serve 152 = .ok (.getfield 117, 3) := by decide +kernel
theorem dX10_serve_155 : decode cX10_serve 155 = .ok (.iload_n 2, 1) := by decide +kernel
theorem dX10_serve_156 : decode cX10_serve 156 = .ok (.iaload, 1) := by decide +kernel
theorem dX10_serve_157 : decode cX10_serve 157 = .ok (.iastore, 1) := by decide +kernel
theorem dX10_serve_158 : decode cX10_serve 158 = .ok (.iinc 2 1, 3) := by decide +kernel
theorem dX10_serve_161 : decode cX10_serve 161 = .ok (.goto (-22), 3) := by decide +kernel
theorem dX10_serve_164 : decode cX10_serve 164 = .ok (.return_, 1) := by decide +kernel
theorem dX10_best_0 : decode cX10_best 0 = .ok (.iload_n 1, 1) := by decide +kernel
theorem dX10_best_1 : decode cX10_best 1 = .ok (.invokestatic 141, 3) := by decide +kernel
theorem dX10_best_4 : decode cX10_best 4 = .ok (.ifCond .ne 5, 3) := by decide +kernel
theorem dX10_best_7 : decode cX10_best 7 = .ok (.iconst (-1), 1) := by decide +kernel
theorem dX10_best_8 : decode cX10_best 8 = .ok (.ireturn, 1) := by decide +kernel
theorem dX10_best_9 : decode cX10_best 9 = .ok (.iconst 0, 1) := by decide +kernel
theorem dX10_best_10 : decode cX10_best 10 = .ok (.istore_n 2, 1) := by decide +kernel
theorem dX10_best_11 : decode cX10_best 11 = .ok (.iload_n 2, 1) := by decide +kernel
theorem dX10_best_12 : decode cX10_best 12 = .ok (.sipush 28561, 3) := by decide +kernel
theorem dX10_best_15 : decode cX10_best 15 = .ok (.if_icmp .ge 24, 3) := by decide +kernel
theorem dX10_best_18 : decode cX10_best 18 = .ok (.aload_n 0, 1) := by decide +kernel
theorem dX10_best_19 : decode cX10_best 19 = .ok (.getfield 114, 3) := by decide +kernel
theorem dX10_best_22 : decode cX10_best 22 = .ok (.iload_n 2, 1) := by decide +kernel
theorem dX10_best_23 : decode cX10_best 23 = .ok (.iload_n 2, 1) := by decide +kernel
theorem dX10_best_24 : decode cX10_best 24 = .ok (.ifCond .ne 7, 3) := by decide +kernel
theorem dX10_best_27 : decode cX10_best 27 = .ok (.iconst 0, 1) := by decide +kernel
theorem dX10_best_28 : decode cX10_best 28 = .ok (.goto 4, 3) := by decide +kernel
theorem dX10_best_31 : decode cX10_best 31 = .ok (.iconst (-1), 1) := by decide +kernel
theorem dX10_best_32 : decode cX10_best 32 = .ok (.iastore, 1) := by decide +kernel
theorem dX10_best_33 : decode cX10_best 33 = .ok (.iinc 2 1, 3) := by decide +kernel
theorem dX10_best_36 : decode cX10_best 36 = .ok (.goto (-25), 3) := by decide +kernel
theorem dX10_best_39 : decode cX10_best 39 = .ok (.iconst 0, 1) := by decide +kernel
theorem dX10_best_40 : decode cX10_best 40 = .ok (.istore_n 2, 1) := by decide +kernel
theorem dX10_best_41 : decode cX10_best 41 = .ok (.iconst 0, 1) := by decide +kernel
theorem dX10_best_42 : decode cX10_best 42 = .ok (.istore_n 3, 1) := by decide +kernel
theorem dX10_best_43 : decode cX10_best 43 = .ok (.iload_n 3, 1) := by decide +kernel
theorem dX10_best_44 : decode cX10_best 44 = .ok (.bipush 40, 2) := by decide +kernel
theorem dX10_best_46 : decode cX10_best 46 = .ok (.if_icmp .ge 70, 3) := by decide +kernel
theorem dX10_best_49 : decode cX10_best 49 = .ok (.iload_n 2, 1) := by decide +kernel
theorem dX10_best_50 : decode cX10_best 50 = .ok (.aload_n 0, 1) := by decide +kernel
theorem dX10_best_51 : decode cX10_best 51 = .ok (.getfield 53, 3) := by decide +kernel
theorem dX10_best_54 : decode cX10_best 54 = .ok (.iload_n 1, 1) := by decide +kernel
theorem dX10_best_55 : decode cX10_best 55 = .ok (.iaload, 1) := by decide +kernel
theorem dX10_best_56 : decode cX10_best 56 = .ok (.if_icmp .ge 60, 3) := by decide +kernel
theorem dX10_best_59 : decode cX10_best 59 = .ok (.iload_n 2, 1) := by decide +kernel
theorem dX10_best_60 : decode cX10_best 60 = .ok (.aload_n 0, 1) := by decide +kernel
theorem dX10_best_61 : decode cX10_best 61 = .ok (.getfield 53, 3) := by decide +kernel
theorem dX10_best_64 : decode cX10_best 64 = .ok (.iload_n 1, 1) := by decide +kernel
theorem dX10_best_65 : decode cX10_best 65 = .ok (.iaload, 1) := by decide +kernel
theorem dX10_best_66 : decode cX10_best 66 = .ok (.if_icmp .ge 39, 3) := by decide +kernel
theorem dX10_best_69 : decode cX10_best 69 = .ok (.aload_n 0, 1) := by decide +kernel
theorem dX10_best_70 : decode cX10_best 70 = .ok (.getfield 56, 3) := by decide +kernel
theorem dX10_best_73 : decode cX10_best 73 = .ok (.bipush 80, 2) := by decide +kernel
theorem dX10_best_75 : decode cX10_best 75 = .ok (.iload_n 1, 1) := by decide +kernel
theorem dX10_best_76 : decode cX10_best 76 = .ok (.imul, 1) := by decide +kernel
theorem dX10_best_77 : decode cX10_best 77 = .ok (.iload_n 2, 1) := by decide +kernel
theorem dX10_best_78 : decode cX10_best 78 = .ok (.iadd, 1) := by decide +kernel
theorem dX10_best_79 : decode cX10_best 79 = .ok (.iaload, 1) := by decide +kernel
theorem dX10_best_80 : decode cX10_best 80 = .ok (.iload_n 3, 1) := by decide +kernel
theorem dX10_best_81 : decode cX10_best 81 = .ok (.if_icmp .ne 24, 3) := by decide +kernel
theorem dX10_best_84 : decode cX10_best 84 = .ok (.aload_n 0, 1) := by decide +kernel
theorem dX10_best_85 : decode cX10_best 85 = .ok (.aload_n 0, 1) := by decide +kernel
theorem dX10_best_86 : decode cX10_best 86 = .ok (.getfield 59, 3) := by decide +kernel
theorem dX10_best_89 : decode cX10_best 89 = .ok (.bipush 80, 2) := by decide +kernel
theorem dX10_best_91 : decode cX10_best 91 = .ok (.iload_n 1, 1) := by decide +kernel
theorem dX10_best_92 : decode cX10_best 92 = .ok (.imul, 1) := by decide +kernel
theorem dX10_best_93 : decode cX10_best 93 = .ok (.iload_n 2, 1) := by decide +kernel
theorem dX10_best_94 : decode cX10_best 94 = .ok (.iadd, 1) := by decide +kernel
theorem dX10_best_95 : decode cX10_best 95 = .ok (.iaload, 1) := by decide +kernel
theorem dX10_best_96 : decode cX10_best 96 = .ok (.invokevirtual 228, 3) := by decide +kernel
theorem dX10_best_99 : decode cX10_best 99 = .ok (.iinc 2 1, 3) := by decide +kernel
theorem dX10_best_102 : decode cX10_best 102 = .ok (.goto (-43), 3) := by decide +kernel
theorem dX10_best_105 : decode cX10_best 105 = .ok (.aload_n 0, 1) := by decide +kernel
theorem dX10_best_106 : decode cX10_best 106 = .ok (.iload_n 3, 1) := by decide +kernel
theorem dX10_best_107 : decode cX10_best 107 = .ok (.invokevirtual 231, 3) := by decide +kernel
theorem dX10_best_110 : decode cX10_best 110 = .ok (.iinc 3 1, 3) := by decide +kernel
theorem dX10_best_113 : decode cX10_best 113 = .ok (.goto (-70), 3) := by decide +kernel
theorem dX10_best_116 : decode cX10_best 116 = .ok (.iconst 0, 1) := by decide +kernel
theorem dX10_best_117 : decode cX10_best 117 = .ok (.istore_n 3, 1) := by decide +kernel
theorem dX10_best_118 : decode cX10_best 118 = .ok (.iconst 0, 1) := by decide +kernel
theorem dX10_best_119 : decode cX10_best 119 = .ok (.istore 4, 2) := by decide +kernel
theorem dX10_best_121 : decode cX10_best 121 = .ok (.iload 4, 2) := by decide +kernel
theorem dX10_best_123 : decode cX10_best 123 = .ok (.sipush 28561, 3) := by decide +kernel
theorem dX10_best_126 : decode cX10_best 126 = .ok (.if_icmp .ge 32, 3) := by decide +kernel
theorem dX10_best_129 : decode cX10_best 129 = .ok (.aload_n 0, 1) := by decide +kernel
theorem dX10_best_130 : decode cX10_best 130 = .ok (.getfield 114, 3) := by decide +kernel
theorem dX10_best_133 : decode cX10_best 133 = .ok (.iload 4, 2) := by decide +kernel
theorem dX10_best_135 : decode cX10_best 135 = .ok (.iaload, 1) := by decide +kernel
theorem dX10_best_136 : decode cX10_best 136 = .ok (.iload_n 3, 1) := by decide +kernel
theorem dX10_best_137 : decode cX10_best 137 = .ok (.if_icmp .le 13, 3) := by decide +kernel
theorem dX10_best_140 : decode cX10_best 140 = .ok (.aload_n 0, 1) := by decide +kernel
theorem dX10_best_141 : decode cX10_best 141 = .ok (.getfield 114, 3) := by decide +kernel
theorem dX10_best_144 : decode cX10_best 144 = .ok (.iload 4, 2) := by decide +kernel
theorem dX10_best_146 : decode cX10_best 146 = .ok (.iaload, 1) := by decide +kernel
theorem dX10_best_147 : decode cX10_best 147 = .ok (.goto 4, 3) := by decide +kernel
theorem dX10_best_150 : decode cX10_best 150 = .ok (.iload_n 3, 1) := by decide +kernel
theorem dX10_best_151 : decode cX10_best 151 = .ok (.istore_n 3, 1) := by decide +kernel
theorem dX10_best_152 : decode cX10_best 152 = .ok (.iinc 4 1, 3) := by decide +kernel
theorem dX10_best_155 : decode cX10_best 155 = .ok (.goto (-34), 3) := by decide +kernel
theorem dX10_best_158 : decode cX10_best 158 = .ok (.iload_n 3, 1) := by decide +kernel
theorem dX10_best_159 : decode cX10_best 159 = .ok (.ireturn, 1) := by decide +kernel
theorem dX10_shortBy_0 : decode cX10_shortBy 0 = .ok (.iload_n 1, 1) := by decide +kernel
theorem dX10_shortBy_1 : decode cX10_shortBy 1 = .ok (.invokestatic 141, 3) := by decide +kernel
theorem dX10_shortBy_4 : decode cX10_shortBy 4 = .ok (.ifCond .eq 12, 3) := by decide +kernel
theorem dX10_shortBy_7 : decode cX10_shortBy 7 = .ok (.iload_n 2, 1) := by decide +kernel
theorem dX10_shortBy_8 : decode cX10_shortBy 8 = .ok (.iconst 0, 1) := by decide +kernel
theorem dX10_shortBy_9 : decode cX10_shortBy 9 = .ok (.iconst 2, 1) := by decide +kernel
theorem dX10_shortBy_10 : decode cX10_shortBy 10 = .ok (.invokestatic 123, 3) := by decide +kernel
theorem dX10_shortBy_13 : decode cX10_shortBy 13 = .ok (.ifCond .ne 5, 3) := by decide +kernel
theorem dX10_shortBy_16 : decode cX10_shortBy 16 = .ok (.iconst (-1), 1) := by decide +kernel
theorem dX10_shortBy_17 : decode cX10_shortBy 17 = .ok (.ireturn, 1) := by decide +kernel
theorem dX10_shortBy_18 : decode cX10_shortBy 18 = .ok (.aload_n 0, 1) := by decide +kernel
theorem dX10_shortBy_19 : decode cX10_shortBy 19 = .ok (.iload_n 1, 1) := by decide +kernel
theorem dX10_shortBy_20 : decode cX10_shortBy 20 = .ok (.invokevirtual 234, 3) := by decide +kernel
theorem dX10_shortBy_23 : decode cX10_shortBy 23 = .ok (.istore_n 3, 1) := by decide +kernel
theorem dX10_shortBy_24 : decode cX10_shortBy 24 = .ok (.aload_n 0, 1) := by decide +kernel
theorem dX10_shortBy_25 : decode cX10_shortBy 25 = .ok (.iload_n 1, 1) := by decide +kernel
theorem dX10_shortBy_26 : decode cX10_shortBy 26 = .ok (.iload_n 2, 1) := by decide +kernel
theorem dX10_shortBy_27 : decode cX10_shortBy 27 = .ok (.aload_n 0, 1) := by decide +kernel
theorem dX10_shortBy_28 : decode cX10_shortBy 28 = .ok (.getfield 38, 3) := by decide +kernel
theorem dX10_shortBy_31 : decode cX10_shortBy 31 = .ok (.iconst 1, 1) := by decide +kernel
theorem dX10_shortBy_32 : decode cX10_shortBy 32 = .ok (.iconst 0, 1) := by decide +kernel
theorem dX10_shortBy_33 : decode cX10_shortBy 33 = .ok (.invokevirtual 202, 3) := by decide +kernel
theorem dX10_shortBy_36 : decode cX10_shortBy 36 = .ok (.iload_n 3, 1) := by decide +kernel
theorem dX10_shortBy_37 : decode cX10_shortBy 37 = .ok (.aload_n 0, 1) := by decide +kernel
theorem dX10_shortBy_38 : decode cX10_shortBy 38 = .ok (.invokevirtual 215, 3) := by decide +kernel
theorem dX10_shortBy_41 : decode cX10_shortBy 41 = .ok (.isub, 1) := by decide +kernel
theorem dX10_shortBy_42 : decode cX10_shortBy 42 = .ok (.ireturn, 1) := by decide +kernel
theorem dX10_pass_0 : decode cX10_pass 0 = .ok (.iload_n 1, 1) := by decide +kernel
theorem dX10_pass_1 : decode cX10_pass 1 = .ok (.invokestatic 141, 3) := by decide +kernel
theorem dX10_pass_4 : decode cX10_pass 4 = .ok (.ifCond .ne 5, 3) := by decide +kernel
theorem dX10_pass_7 : decode cX10_pass 7 = .ok (.iconst (-1), 1) := by decide +kernel
theorem dX10_pass_8 : decode cX10_pass 8 = .ok (.ireturn, 1) := by decide +kernel
theorem dX10_pass_9 : decode cX10_pass 9 = .ok (.aload_n 0, 1) := by decide +kernel
theorem dX10_pass_10 : decode cX10_pass 10 = .ok (.getfield 62, 3) := by decide +kernel
theorem dX10_pass_13 : decode cX10_pass 13 = .ok (.iload_n 1, 1) := by decide +kernel
theorem dX10_pass_14 : decode cX10_pass 14 = .ok (.iload_n 2, 1) := by decide +kernel
theorem dX10_pass_15 : decode cX10_pass 15 = .ok (.bastore, 1) := by decide +kernel
theorem dX10_pass_16 : decode cX10_pass 16 = .ok (.iconst 0, 1) := by decide +kernel
theorem dX10_pass_17 : decode cX10_pass 17 = .ok (.istore_n 3, 1) := by decide +kernel
theorem dX10_pass_18 : decode cX10_pass 18 = .ok (.iconst 0, 1) := by decide +kernel
theorem dX10_pass_19 : decode cX10_pass 19 = .ok (.istore 4, 2) := by decide +kernel
theorem dX10_pass_21 : decode cX10_pass 21 = .ok (.iload 4, 2) := by decide +kernel
theorem dX10_pass_23 : decode cX10_pass 23 = .ok (.iconst 4, 1) := by decide +kernel
theorem dX10_pass_24 : decode cX10_pass 24 = .ok (.if_icmp .ge 27, 3) := by decide +kernel
theorem dX10_pass_27 : decode cX10_pass 27 = .ok (.iload_n 3, 1) := by decide +kernel
theorem dX10_pass_28 : decode cX10_pass 28 = .ok (.aload_n 0, 1) := by decide +kernel
theorem dX10_pass_29 : decode cX10_pass 29 = .ok (.getfield 62, 3) := by decide +kernel
theorem dX10_pass_32 : decode cX10_pass 32 = .ok (.iload 4, 2) := by decide +kernel
theorem dX10_pass_34 : decode cX10_pass 34 = .ok (.baload, 1) := by decide +kernel
theorem dX10_pass_35 : decode cX10_pass 35 = .ok (.ifCond .eq 7, 3) := by decide +kernel
theorem dX10_pass_38 : decode cX10_pass 38 = .ok (.iconst 1, 1) := by decide +kernel
theorem dX10_pass_39 : decode cX10_pass 39 = .ok (.goto 4, 3) := by decide +kernel
theorem dX10_pass_42 : decode cX10_pass 42 = .ok (.iconst 0, 1) := by decide +kernel
theorem dX10_pass_43 : decode cX10_pass 43 = .ok (.iadd, 1) := by decide +kernel
theorem dX10_pass_44 : decode cX10_pass 44 = .ok (.istore_n 3, 1) := by decide +kernel
theorem dX10_pass_45 : decode cX10_pass 45 = .ok (.iinc 4 1, 3) := by decide +kernel
theorem dX10_pass_48 : decode cX10_pass 48 = .ok (.goto (-27), 3) := by decide +kernel
theorem dX10_pass_51 : decode cX10_pass 51 = .ok (.iload_n 3, 1) := by decide +kernel
theorem dX10_pass_52 : decode cX10_pass 52 = .ok (.ireturn, 1) := by decide +kernel
theorem dX10_leastOf_0 : decode cX10_leastOf 0 = .ok (.iconst 1, 1) := by decide +kernel
theorem dX10_leastOf_1 : decode cX10_leastOf 1 = .ok (.istore_n 2, 1) := by decide +kernel
theorem dX10_leastOf_2 : decode cX10_leastOf 2 = .ok (.iconst 0, 1) := by decide +kernel
theorem dX10_leastOf_3 : decode cX10_leastOf 3 = .ok (.istore_n 3, 1) := by decide +kernel
theorem dX10_leastOf_4 : decode cX10_leastOf 4 = .ok (.iload_n 2, 1) := by decide +kernel
theorem dX10_leastOf_5 : decode cX10_leastOf 5 = .ok (.sipush 161, 3) := by decide +kernel
theorem dX10_leastOf_8 : decode cX10_leastOf 8 = .ok (.if_icmp .ge 50, 3) := by decide +kernel
theorem dX10_leastOf_11 : decode cX10_leastOf 11 = .ok (.iload_n 3, 1) := by decide +kernel
theorem dX10_leastOf_12 : decode cX10_leastOf 12 = .ok (.ifCond .ne 46, 3) := by decide +kernel
theorem dX10_leastOf_15 : decode cX10_leastOf 15 = .ok (.aload_n 0, 1) := by decide +kernel
theorem dX10_leastOf_16 : decode cX10_leastOf 16 = .ok (.iload_n 1, 1) := by decide +kernel
theorem dX10_leastOf_17 : decode cX10_leastOf 17 = .ok (.iconst 1, 1) := by decide +kernel
theorem dX10_leastOf_18 : decode cX10_leastOf 18 = .ok (.iload_n 2, 1) := by decide +kernel
theorem dX10_leastOf_19 : decode cX10_leastOf 19 = .ok (.iconst 1, 1) := by decide +kernel
end
section
theorem dX10_leastOf_20 : decode cX10_leastOf 20 = .ok (.iconst 0, 1) := by decide +kernel
theorem dX10_leastOf_21 : decode cX10_leastOf 21 = .ok (.invokevirtual 202, 3) := by decide +kernel
theorem dX10_leastOf_24 : decode cX10_leastOf 24 = .ok (.aload_n 0, 1) := by decide +kernel
theorem dX10_leastOf_25 : decode cX10_leastOf 25 = .ok (.invokevirtual 215, 3) := by decide +kernel
theorem dX10_leastOf_28 : decode cX10_leastOf 28 = .ok (.aload_n 0, 1) := by decide +kernel
theorem dX10_leastOf_29 : decode cX10_leastOf 29 = .ok (.getfield 53, 3) := by decide +kernel
theorem dX10_leastOf_32 : decode cX10_leastOf 32 = .ok (.iload_n 1, 1) := by decide +kernel
theorem dX10_leastOf_33 : decode cX10_leastOf 33 = .ok (.iaload, 1) := by decide +kernel
theorem dX10_leastOf_34 : decode cX10_leastOf 34 = .ok (.if_icmp .ne 7, 3) := by decide +kernel
theorem dX10_leastOf_37 : decode cX10_leastOf 37 = .ok (.iconst 1, 1) := by decide +kernel
theorem dX10_leastOf_38 : decode cX10_leastOf 38 = .ok (.goto 4, 3) := by decide +kernel
theorem dX10_leastOf_41 : decode cX10_leastOf 41 = .ok (.iconst 0, 1) := by decide +kernel
theorem dX10_leastOf_42 : decode cX10_leastOf 42 = .ok (.istore_n 3, 1) := by decide +kernel
theorem dX10_leastOf_43 : decode cX10_leastOf 43 = .ok (.iload_n 2, 1) := by decide +kernel
theorem dX10_leastOf_44 : decode cX10_leastOf 44 = .ok (.iload_n 3, 1) := by decide +kernel
theorem dX10_leastOf_45 : decode cX10_leastOf 45 = .ok (.ifCond .eq 7, 3) := by decide +kernel
theorem dX10_leastOf_48 : decode cX10_leastOf 48 = .ok (.iconst 0, 1) := by decide +kernel
theorem dX10_leastOf_49 : decode cX10_leastOf 49 = .ok (.goto 4, 3) := by decide +kernel
theorem dX10_leastOf_52 : decode cX10_leastOf 52 = .ok (.iconst 1, 1) := by decide +kernel
theorem dX10_leastOf_53 : decode cX10_leastOf 53 = .ok (.iadd, 1) := by decide +kernel
theorem dX10_leastOf_54 : decode cX10_leastOf 54 = .ok (.istore_n 2, 1) := by decide +kernel
theorem dX10_leastOf_55 : decode cX10_leastOf 55 = .ok (.goto (-51), 3) := by decide +kernel
theorem dX10_leastOf_58 : decode cX10_leastOf 58 = .ok (.iload_n 2, 1) := by decide +kernel
theorem dX10_leastOf_59 : decode cX10_leastOf 59 = .ok (.ireturn, 1) := by decide +kernel
theorem dX10_marks_0 : decode cX10_marks 0 = .ok (.aload_n 0, 1) := by decide +kernel
theorem dX10_marks_1 : decode cX10_marks 1 = .ok (.iconst (-1), 1) := by decide +kernel
theorem dX10_marks_2 : decode cX10_marks 2 = .ok (.putfield 120, 3) := by decide +kernel
theorem dX10_marks_5 : decode cX10_marks 5 = .ok (.iconst 1, 1) := by decide +kernel
theorem dX10_marks_6 : decode cX10_marks 6 = .ok (.istore_n 1, 1) := by decide +kernel
theorem dX10_marks_7 : decode cX10_marks 7 = .ok (.iconst 0, 1) := by decide +kernel
theorem dX10_marks_8 : decode cX10_marks 8 = .ok (.istore_n 2, 1) := by decide +kernel
theorem dX10_marks_9 : decode cX10_marks 9 = .ok (.iload_n 2, 1) := by decide +kernel
theorem dX10_marks_10 : decode cX10_marks 10 = .ok (.iconst 4, 1) := by decide +kernel
theorem dX10_marks_11 : decode cX10_marks 11 = .ok (.if_icmp .ge 62, 3) := by decide +kernel
theorem dX10_marks_14 : decode cX10_marks 14 = .ok (.aload_n 0, 1) := by decide +kernel
theorem dX10_marks_15 : decode cX10_marks 15 = .ok (.getfield 120, 3) := by decide +kernel
theorem dX10_marks_18 : decode cX10_marks 18 = .ok (.ifCond .ge 55, 3) := by decide +kernel
theorem dX10_marks_21 : decode cX10_marks 21 = .ok (.aload_n 0, 1) := by decide +kernel
theorem dX10_marks_22 : decode cX10_marks 22 = .ok (.getfield 62, 3) := by decide +kernel
theorem dX10_marks_25 : decode cX10_marks 25 = .ok (.iload_n 2, 1) := by decide +kernel
theorem dX10_marks_26 : decode cX10_marks 26 = .ok (.baload, 1) := by decide +kernel
theorem dX10_marks_27 : decode cX10_marks 27 = .ok (.ifCond .eq 11, 3) := by decide +kernel
theorem dX10_marks_30 : decode cX10_marks 30 = .ok (.aload_n 0, 1) := by decide +kernel
theorem dX10_marks_31 : decode cX10_marks 31 = .ok (.iload_n 2, 1) := by decide +kernel
theorem dX10_marks_32 : decode cX10_marks 32 = .ok (.invokevirtual 237, 3) := by decide +kernel
theorem dX10_marks_35 : decode cX10_marks 35 = .ok (.goto 4, 3) := by decide +kernel
theorem dX10_marks_38 : decode cX10_marks 38 = .ok (.iconst 1, 1) := by decide +kernel
theorem dX10_marks_39 : decode cX10_marks 39 = .ok (.istore_n 3, 1) := by decide +kernel
theorem dX10_marks_40 : decode cX10_marks 40 = .ok (.aload_n 0, 1) := by decide +kernel
theorem dX10_marks_41 : decode cX10_marks 41 = .ok (.iload_n 3, 1) := by decide +kernel
theorem dX10_marks_42 : decode cX10_marks 42 = .ok (.sipush 160, 3) := by decide +kernel
theorem dX10_marks_45 : decode cX10_marks 45 = .ok (.if_icmp .le 7, 3) := by decide +kernel
theorem dX10_marks_48 : decode cX10_marks 48 = .ok (.iload_n 2, 1) := by decide +kernel
theorem dX10_marks_49 : decode cX10_marks 49 = .ok (.goto 4, 3) := by decide +kernel
theorem dX10_marks_52 : decode cX10_marks 52 = .ok (.iconst (-1), 1) := by decide +kernel
theorem dX10_marks_53 : decode cX10_marks 53 = .ok (.putfield 120, 3) := by decide +kernel
theorem dX10_marks_56 : decode cX10_marks 56 = .ok (.iload_n 3, 1) := by decide +kernel
theorem dX10_marks_57 : decode cX10_marks 57 = .ok (.iload_n 1, 1) := by decide +kernel
theorem dX10_marks_58 : decode cX10_marks 58 = .ok (.if_icmp .le 7, 3) := by decide +kernel
theorem dX10_marks_61 : decode cX10_marks 61 = .ok (.iload_n 3, 1) := by decide +kernel
theorem dX10_marks_62 : decode cX10_marks 62 = .ok (.goto 4, 3) := by decide +kernel
theorem dX10_marks_65 : decode cX10_marks 65 = .ok (.iload_n 1, 1) := by decide +kernel
theorem dX10_marks_66 : decode cX10_marks 66 = .ok (.istore_n 1, 1) := by decide +kernel
theorem dX10_marks_67 : decode cX10_marks 67 = .ok (.iinc 2 1, 3) := by decide +kernel
theorem dX10_marks_70 : decode cX10_marks 70 = .ok (.goto (-61), 3) := by decide +kernel
theorem dX10_marks_73 : decode cX10_marks 73 = .ok (.aload_n 0, 1) := by decide +kernel
theorem dX10_marks_74 : decode cX10_marks 74 = .ok (.getfield 120, 3) := by decide +kernel
theorem dX10_marks_77 : decode cX10_marks 77 = .ok (.ifCond .ge 7, 3) := by decide +kernel
theorem dX10_marks_80 : decode cX10_marks 80 = .ok (.iload_n 1, 1) := by decide +kernel
theorem dX10_marks_81 : decode cX10_marks 81 = .ok (.goto 5, 3) := by decide +kernel
theorem dX10_marks_84 : decode cX10_marks 84 = .ok (.bipush (-2), 2) := by decide +kernel
theorem dX10_marks_86 : decode cX10_marks 86 = .ok (.ireturn, 1) := by decide +kernel
theorem dX10_witness_0 : decode cX10_witness 0 = .ok (.aload_n 0, 1) := by decide +kernel
theorem dX10_witness_1 : decode cX10_witness 1 = .ok (.getfield 120, 3) := by decide +kernel
theorem dX10_witness_4 : decode cX10_witness 4 = .ok (.ireturn, 1) := by decide +kernel
theorem dJ9_max_7cf53_0 : decode cJ9_max_7cf53 0 = .ok (.iload_n 0, 1) := by decide +kernel
theorem dJ9_max_7cf53_1 : decode cJ9_max_7cf53 1 = .ok (.iload_n 1, 1) := by decide +kernel
theorem dJ9_max_7cf53_2 : decode cJ9_max_7cf53 2 = .ok (.if_icmp .lt 7, 3) := by decide +kernel
theorem dJ9_max_7cf53_5 : decode cJ9_max_7cf53 5 = .ok (.iload_n 0, 1) := by decide +kernel
theorem dJ9_max_7cf53_6 : decode cJ9_max_7cf53 6 = .ok (.goto 4, 3) := by decide +kernel
theorem dJ9_max_7cf53_9 : decode cJ9_max_7cf53 9 = .ok (.iload_n 1, 1) := by decide +kernel
theorem dJ9_max_7cf53_10 : decode cJ9_max_7cf53 10 = .ok (.ireturn, 1) := by decide +kernel
theorem dL_law_0 : decode cL_law 0 = .ok (.new 7, 3) := by decide +kernel
theorem dL_law_3 : decode cL_law 3 = .ok (.dup, 1) := by decide +kernel
theorem dL_law_4 : decode cL_law 4 = .ok (.invokespecial 9, 3) := by decide +kernel
theorem dL_law_7 : decode cL_law 7 = .ok (.astore_n 1, 1) := by decide +kernel
theorem dL_law_8 : decode cL_law 8 = .ok (.new 10, 3) := by decide +kernel
theorem dL_law_11 : decode cL_law 11 = .ok (.dup, 1) := by decide +kernel
theorem dL_law_12 : decode cL_law 12 = .ok (.invokespecial 12, 3) := by decide +kernel
theorem dL_law_15 : decode cL_law 15 = .ok (.astore_n 2, 1) := by decide +kernel
theorem dL_law_16 : decode cL_law 16 = .ok (.iconst 0, 1) := by decide +kernel
theorem dL_law_17 : decode cL_law 17 = .ok (.istore_n 3, 1) := by decide +kernel
theorem dL_law_18 : decode cL_law 18 = .ok (.iload_n 3, 1) := by decide +kernel
theorem dL_law_19 : decode cL_law 19 = .ok (.aload_n 0, 1) := by decide +kernel
theorem dL_law_20 : decode cL_law 20 = .ok (.arraylength, 1) := by decide +kernel
theorem dL_law_21 : decode cL_law 21 = .ok (.bipush 6, 2) := by decide +kernel
theorem dL_law_23 : decode cL_law 23 = .ok (.isub, 1) := by decide +kernel
theorem dL_law_24 : decode cL_law 24 = .ok (.if_icmp .gt 981, 3) := by decide +kernel
theorem dL_law_27 : decode cL_law 27 = .ok (.aload_n 0, 1) := by decide +kernel
theorem dL_law_28 : decode cL_law 28 = .ok (.iload_n 3, 1) := by decide +kernel
theorem dL_law_29 : decode cL_law 29 = .ok (.iaload, 1) := by decide +kernel
theorem dL_law_30 : decode cL_law 30 = .ok (.bipush 31, 2) := by decide +kernel
theorem dL_law_32 : decode cL_law 32 = .ok (.iand, 1) := by decide +kernel
theorem dL_law_33 : decode cL_law 33 = .ok (.tableswitch 966 0 24 #[115, 138, 171, 204, 237, 270, 323, 356, 379, 422, 445, 498, 561, 624, 647, 690, 723, 756, 789, 822, 835, 858, 891, 940, 953], 115) := by decide +kernel
theorem dL_law_148 : decode cL_law 148 = .ok (.aload_n 1, 1) := by decide +kernel
theorem dL_law_149 : decode cL_law 149 = .ok (.aload_n 0, 1) := by decide +kernel
theorem dL_law_150 : decode cL_law 150 = .ok (.iload_n 3, 1) := by decide +kernel
theorem dL_law_151 : decode cL_law 151 = .ok (.iconst 1, 1) := by decide +kernel
theorem dL_law_152 : decode cL_law 152 = .ok (.iadd, 1) := by decide +kernel
theorem dL_law_153 : decode cL_law 153 = .ok (.iaload, 1) := by decide +kernel
theorem dL_law_154 : decode cL_law 154 = .ok (.invokevirtual 13, 3) := by decide +kernel
theorem dL_law_157 : decode cL_law 157 = .ok (.aload_n 2, 1) := by decide +kernel
theorem dL_law_158 : decode cL_law 158 = .ok (.aload_n 0, 1) := by decide +kernel
theorem dL_law_159 : decode cL_law 159 = .ok (.iload_n 3, 1) := by decide +kernel
theorem dL_law_160 : decode cL_law 160 = .ok (.iconst 1, 1) := by decide +kernel
theorem dL_law_161 : decode cL_law 161 = .ok (.iadd, 1) := by decide +kernel
theorem dL_law_162 : decode cL_law 162 = .ok (.iaload, 1) := by decide +kernel
theorem dL_law_163 : decode cL_law 163 = .ok (.invokevirtual 17, 3) := by decide +kernel
theorem dL_law_166 : decode cL_law 166 = .ok (.if_icmp .eq 833, 3) := by decide +kernel
theorem dL_law_169 : decode cL_law 169 = .ok (.iconst 0, 1) := by decide +kernel
theorem dL_law_170 : decode cL_law 170 = .ok (.ireturn, 1) := by decide +kernel
theorem dL_law_171 : decode cL_law 171 = .ok (.aload_n 1, 1) := by decide +kernel
theorem dL_law_172 : decode cL_law 172 = .ok (.aload_n 0, 1) := by decide +kernel
theorem dL_law_173 : decode cL_law 173 = .ok (.iload_n 3, 1) := by decide +kernel
theorem dL_law_174 : decode cL_law 174 = .ok (.iconst 1, 1) := by decide +kernel
theorem dL_law_175 : decode cL_law 175 = .ok (.iadd, 1) := by decide +kernel
theorem dL_law_176 : decode cL_law 176 = .ok (.iaload, 1) := by decide +kernel
theorem dL_law_177 : decode cL_law 177 = .ok (.aload_n 0, 1) := by decide +kernel
theorem dL_law_178 : decode cL_law 178 = .ok (.iload_n 3, 1) := by decide +kernel
theorem dL_law_179 : decode cL_law 179 = .ok (.iconst 2, 1) := by decide +kernel
theorem dL_law_180 : decode cL_law 180 = .ok (.iadd, 1) := by decide +kernel
theorem dL_law_181 : decode cL_law 181 = .ok (.iaload, 1) := by decide +kernel
theorem dL_law_182 : decode cL_law 182 = .ok (.invokevirtual 18, 3) := by decide +kernel
theorem dL_law_185 : decode cL_law 185 = .ok (.aload_n 2, 1) := by decide +kernel
theorem dL_law_186 : decode cL_law 186 = .ok (.aload_n 0, 1) := by decide +kernel
theorem dL_law_187 : decode cL_law 187 = .ok (.iload_n 3, 1) := by decide +kernel
theorem dL_law_188 : decode cL_law 188 = .ok (.iconst 1, 1) := by decide +kernel
theorem dL_law_189 : decode cL_law 189 = .ok (.iadd, 1) := by decide +kernel
theorem dL_law_190 : decode cL_law 190 = .ok (.iaload, 1) := by decide +kernel
theorem dL_law_191 : decode cL_law 191 = .ok (.aload_n 0, 1) := by decide +kernel
theorem dL_law_192 : decode cL_law 192 = .ok (.iload_n 3, 1) := by decide +kernel
theorem dL_law_193 : decode cL_law 193 = .ok (.iconst 2, 1) := by decide +kernel
theorem dL_law_194 : decode cL_law 194 = .ok (.iadd, 1) := by decide +kernel
theorem dL_law_195 : decode cL_law 195 = .ok (.iaload, 1) := by decide +kernel
theorem dL_law_196 : decode cL_law 196 = .ok (.invokevirtual 22, 3) := by decide +kernel
theorem dL_law_199 : decode cL_law 199 = .ok (.if_icmp .eq 800, 3) := by decide +kernel
theorem dL_law_202 : decode cL_law 202 = .ok (.iconst 0, 1) := by decide +kernel
theorem dL_law_203 : decode cL_law 203 = .ok (.ireturn, 1) := by decide +kernel
theorem dL_law_204 : decode cL_law 204 = .ok (.aload_n 1, 1) := by decide +kernel
theorem dL_law_205 : decode cL_law 205 = .ok (.aload_n 0, 1) := by decide +kernel
theorem dL_law_206 : decode cL_law 206 = .ok (.iload_n 3, 1) := by decide +kernel
theorem dL_law_207 : decode cL_law 207 = .ok (.iconst 1, 1) := by decide +kernel
theorem dL_law_208 : decode cL_law 208 = .ok (.iadd, 1) := by decide +kernel
theorem dL_law_209 : decode cL_law 209 = .ok (.iaload, 1) := by decide +kernel
theorem dL_law_210 : decode cL_law 210 = .ok (.aload_n 0, 1) := by decide +kernel
theorem dL_law_211 : decode cL_law 211 = .ok (.iload_n 3, 1) := by decide +kernel
theorem dL_law_212 : decode cL_law 212 = .ok (.iconst 2, 1) := by decide +kernel
theorem dL_law_213 : decode cL_law 213 = .ok (.iadd, 1) := by decide +kernel
theorem dL_law_214 : decode cL_law 214 = .ok (.iaload, 1) := by decide +kernel
theorem dL_law_215 : decode cL_law 215 = .ok (.invokevirtual 23, 3) := by decide +kernel
theorem dL_law_218 : decode cL_law 218 = .ok (.aload_n 2, 1) := by decide +kernel
theorem dL_law_219 : decode cL_law 219 = .ok (.aload_n 0, 1) := by decide +kernel
theorem dL_law_220 : decode cL_law 220 = .ok (.iload_n 3, 1) := by decide +kernel
theorem dL_law_221 : decode cL_law 221 = .ok (.iconst 1, 1) := by decide +kernel
theorem dL_law_222 : decode cL_law 222 = .ok (.iadd, 1) := by decide +kernel
theorem dL_law_223 : decode cL_law 223 = .ok (.iaload, 1) := by decide +kernel
theorem dL_law_224 : decode cL_law 224 = .ok (.aload_n 0, 1) := by decide +kernel
theorem dL_law_225 : decode cL_law 225 = .ok (.iload_n 3, 1) := by decide +kernel
theorem dL_law_226 : decode cL_law 226 = .ok (.iconst 2, 1) := by decide +kernel
theorem dL_law_227 : decode cL_law 227 = .ok (.iadd, 1) := by decide +kernel
theorem dL_law_228 : decode cL_law 228 = .ok (.iaload, 1) := by decide +kernel
theorem dL_law_229 : decode cL_law 229 = .ok (.invokevirtual 26, 3) := by decide +kernel
theorem dL_law_232 : decode cL_law 232 = .ok (.if_icmp .eq 767, 3) := by decide +kernel
theorem dL_law_235 : decode cL_law 235 = .ok (.iconst 0, 1) := by decide +kernel
theorem dL_law_236 : decode cL_law 236 = .ok (.ireturn, 1) := by decide +kernel
theorem dL_law_237 : decode cL_law 237 = .ok (.aload_n 1, 1) := by decide +kernel
theorem dL_law_238 : decode cL_law 238 = .ok (.aload_n 0, 1) := by decide +kernel
theorem dL_law_239 : decode cL_law 239 = .ok (.iload_n 3, 1) := by decide +kernel
theorem dL_law_240 : decode cL_law 240 = .ok (.iconst 1, 1) := by decide +kernel
theorem dL_law_241 : decode cL_law 241 = .ok (.iadd, 1) := by decide +kernel
theorem dL_law_242 : decode cL_law 242 = .ok (.iaload, 1) := by decide +kernel
theorem dL_law_243 : decode cL_law 243 = .ok (.aload_n 0, 1) := by decide +kernel
theorem dL_law_244 : decode cL_law 244 = .ok (.iload_n 3, 1) := by decide +kernel
theorem dL_law_245 : decode cL_law 245 = .ok (.iconst 2, 1) := by decide +kernel
theorem dL_law_246 : decode cL_law 246 = .ok (.iadd, 1) := by decide +kernel
theorem dL_law_247 : decode cL_law 247 = .ok (.iaload, 1) := by decide +kernel
theorem dL_law_248 : decode cL_law 248 = .ok (.invokevirtual 27, 3) := by decide +kernel
theorem dL_law_251 : decode cL_law 251 = .ok (.aload_n 2, 1) := by decide +kernel
theorem dL_law_252 : decode cL_law 252 = .ok (.aload_n 0, 1) := by decide +kernel
theorem dL_law_253 : decode cL_law 253 = .ok (.iload_n 3, 1) := by decide +kernel
theorem dL_law_254 : decode cL_law 254 = .ok (.iconst 1, 1) := by decide +kernel
theorem dL_law_255 : decode cL_law 255 = .ok (.iadd, 1) := by decide +kernel
theorem dL_law_256 : decode cL_law 256 = .ok (.iaload, 1) := by decide +kernel
theorem dL_law_257 : decode cL_law 257 = .ok (.aload_n 0, 1) := by decide +kernel
theorem dL_law_258 : decode cL_law 258 = .ok (.iload_n 3, 1) := by decide +kernel
theorem dL_law_259 : decode cL_law 259 = .ok (.iconst 2, 1) := by decide +kernel
theorem dL_law_260 : decode cL_law 260 = .ok (.iadd, 1) := by decide +kernel
theorem dL_law_261 : decode cL_law 261 = .ok (.iaload, 1) := by decide +kernel
theorem dL_law_262 : decode cL_law 262 = .ok (.invokevirtual 30, 3) := by decide +kernel
theorem dL_law_265 : decode cL_law 265 = .ok (.if_icmp .eq 734, 3) := by decide +kernel
theorem dL_law_268 : decode cL_law 268 = .ok (.iconst 0, 1) := by decide +kernel
theorem dL_law_269 : decode cL_law 269 = .ok (.ireturn, 1) := by decide +kernel
theorem dL_law_270 : decode cL_law 270 = .ok (.aload_n 1, 1) := by decide +kernel
theorem dL_law_271 : decode cL_law 271 = .ok (.aload_n 0, 1) := by decide +kernel
theorem dL_law_272 : decode cL_law 272 = .ok (.iload_n 3, 1) := by decide +kernel
theorem dL_law_273 : decode cL_law 273 = .ok (.iconst 1, 1) := by decide +kernel
theorem dL_law_274 : decode cL_law 274 = .ok (.iadd, 1) := by decide +kernel
theorem dL_law_275 : decode cL_law 275 = .ok (.iaload, 1) := by decide +kernel
theorem dL_law_276 : decode cL_law 276 = .ok (.aload_n 0, 1) := by decide +kernel
theorem dL_law_277 : decode cL_law 277 = .ok (.iload_n 3, 1) := by decide +kernel
theorem dL_law_278 : decode cL_law 278 = .ok (.iconst 2, 1) := by decide +kernel
theorem dL_law_279 : decode cL_law 279 = .ok (.iadd, 1) := by decide +kernel
theorem dL_law_280 : decode cL_law 280 = .ok (.iaload, 1) := by decide +kernel
theorem dL_law_281 : decode cL_law 281 = .ok (.invokevirtual 31, 3) := by decide +kernel
theorem dL_law_284 : decode cL_law 284 = .ok (.aload_n 2, 1) := by decide +kernel
theorem dL_law_285 : decode cL_law 285 = .ok (.aload_n 0, 1) := by decide +kernel
theorem dL_law_286 : decode cL_law 286 = .ok (.iload_n 3, 1) := by decide +kernel
theorem dL_law_287 : decode cL_law 287 = .ok (.iconst 1, 1) := by decide +kernel
theorem dL_law_288 : decode cL_law 288 = .ok (.iadd, 1) := by decide +kernel
theorem dL_law_289 : decode cL_law 289 = .ok (.iaload, 1) := by decide +kernel
theorem dL_law_290 : decode cL_law 290 = .ok (.aload_n 0, 1) := by decide +kernel
theorem dL_law_291 : decode cL_law 291 = .ok (.iload_n 3, 1) := by decide +kernel
theorem dL_law_292 : decode cL_law 292 = .ok (.iconst 2, 1) := by decide +kernel
theorem dL_law_293 : decode cL_law 293 = .ok (.iadd, 1) := by decide +kernel
theorem dL_law_294 : decode cL_law 294 = .ok (.iaload, 1) := by decide +kernel
theorem dL_law_295 : decode cL_law 295 = .ok (.invokevirtual 34, 3) := by decide +kernel
theorem dL_law_298 : decode cL_law 298 = .ok (.if_icmp .eq 701, 3) := by decide +kernel
theorem dL_law_301 : decode cL_law 301 = .ok (.iconst 0, 1) := by decide +kernel
theorem dL_law_302 : decode cL_law 302 = .ok (.ireturn, 1) := by decide +kernel
theorem dL_law_303 : decode cL_law 303 = .ok (.aload_n 1, 1) := by decide +kernel
theorem dL_law_304 : decode cL_law 304 = .ok (.aload_n 0, 1) := by decide +kernel
theorem dL_law_305 : decode cL_law 305 = .ok (.iload_n 3, 1) := by decide +kernel
theorem dL_law_306 : decode cL_law 306 = .ok (.iconst 1, 1) := by decide +kernel
theorem dL_law_307 : decode cL_law 307 = .ok (.iadd, 1) := by decide +kernel
theorem dL_law_308 : decode cL_law 308 = .ok (.iaload, 1) := by decide +kernel
theorem dL_law_309 : decode cL_law 309 = .ok (.aload_n 0, 1) := by decide +kernel
theorem dL_law_310 : decode cL_law 310 = .ok (.iload_n 3, 1) := by decide +kernel
theorem dL_law_311 : decode cL_law 311 = .ok (.iconst 2, 1) := by decide +kernel
theorem dL_law_312 : decode cL_law 312 = .ok (.iadd, 1) := by decide +kernel
theorem dL_law_313 : decode cL_law 313 = .ok (.iaload, 1) := by decide +kernel
theorem dL_law_314 : decode cL_law 314 = .ok (.aload_n 0, 1) := by decide +kernel
theorem dL_law_315 : decode cL_law 315 = .ok (.iload_n 3, 1) := by decide +kernel
theorem dL_law_316 : decode cL_law 316 = .ok (.iconst 3, 1) := by decide +kernel
theorem dL_law_317 : decode cL_law 317 = .ok (.iadd, 1) := by decide +kernel
theorem dL_law_318 : decode cL_law 318 = .ok (.iaload, 1) := by decide +kernel
theorem dL_law_319 : decode cL_law 319 = .ok (.aload_n 0, 1) := by decide +kernel
theorem dL_law_320 : decode cL_law 320 = .ok (.iload_n 3, 1) := by decide +kernel
theorem dL_law_321 : decode cL_law 321 = .ok (.iconst 4, 1) := by decide +kernel
theorem dL_law_322 : decode cL_law 322 = .ok (.iadd, 1) := by decide +kernel
theorem dL_law_323 : decode cL_law 323 = .ok (.iaload, 1) := by decide +kernel
theorem dL_law_324 : decode cL_law 324 = .ok (.invokevirtual 35, 3) := by decide +kernel
theorem dL_law_327 : decode cL_law 327 = .ok (.aload_n 2, 1) := by decide +kernel
theorem dL_law_328 : decode cL_law 328 = .ok (.aload_n 0, 1) := by decide +kernel
theorem dL_law_329 : decode cL_law 329 = .ok (.iload_n 3, 1) := by decide +kernel
theorem dL_law_330 : decode cL_law 330 = .ok (.iconst 1, 1) := by decide +kernel
theorem dL_law_331 : decode cL_law 331 = .ok (.iadd, 1) := by decide +kernel
theorem dL_law_332 : decode cL_law 332 = .ok (.iaload, 1) := by decide +kernel
theorem dL_law_333 : decode cL_law 333 = .ok (.aload_n 0, 1) := by decide +kernel
theorem dL_law_334 : decode cL_law 334 = .ok (.iload_n 3, 1) := by decide +kernel
theorem dL_law_335 : decode cL_law 335 = .ok (.iconst 2, 1) := by decide +kernel
theorem dL_law_336 : decode cL_law 336 = .ok (.iadd, 1) := by decide +kernel
theorem dL_law_337 : decode cL_law 337 = .ok (.iaload, 1) := by decide +kernel
theorem dL_law_338 : decode cL_law 338 = .ok (.aload_n 0, 1) := by decide +kernel
theorem dL_law_339 : decode cL_law 339 = .ok (.iload_n 3, 1) := by decide +kernel
theorem dL_law_340 : decode cL_law 340 = .ok (.iconst 3, 1) := by decide +kernel
theorem dL_law_341 : decode cL_law 341 = .ok (.iadd, 1) := by decide +kernel
theorem dL_law_342 : decode cL_law 342 = .ok (.iaload, 1) := by decide +kernel
theorem dL_law_343 : decode cL_law 343 = .ok (.aload_n 0, 1) := by decide +kernel
theorem dL_law_344 : decode cL_law 344 = .ok (.iload_n 3, 1) := by decide +kernel
theorem dL_law_345 : decode cL_law 345 = .ok (.iconst 4, 1) := by decide +kernel
theorem dL_law_346 : decode cL_law 346 = .ok (.iadd, 1) := by decide +kernel
theorem dL_law_347 : decode cL_law 347 = .ok (.iaload, 1) := by decide +kernel
theorem dL_law_348 : decode cL_law 348 = .ok (.invokevirtual 39, 3) := by decide +kernel
theorem dL_law_351 : decode cL_law 351 = .ok (.if_icmp .eq 648, 3) := by decide +kernel
theorem dL_law_354 : decode cL_law 354 = .ok (.iconst 0, 1) := by decide +kernel
theorem dL_law_355 : decode cL_law 355 = .ok (.ireturn, 1) := by decide +kernel
theorem dL_law_356 : decode cL_law 356 = .ok (.aload_n 1, 1) := by decide +kernel
theorem dL_law_357 : decode cL_law 357 = .ok (.aload_n 0, 1) := by decide +kernel
theorem dL_law_358 : decode cL_law 358 = .ok (.iload_n 3, 1) := by decide +kernel
theorem dL_law_359 : decode cL_law 359 = .ok (.iconst 1, 1) := by decide +kernel
theorem dL_law_360 : decode cL_law 360 = .ok (.iadd, 1) := by decide +kernel
theorem dL_law_361 : decode cL_law 361 = .ok (.iaload, 1) := by decide +kernel
theorem dL_law_362 : decode cL_law 362 = .ok (.aload_n 0, 1) := by decide +kernel
theorem dL_law_363 : decode cL_law 363 = .ok (.iload_n 3, 1) := by decide +kernel
theorem dL_law_364 : decode cL_law 364 = .ok (.iconst 2, 1) := by decide +kernel
theorem dL_law_365 : decode cL_law 365 = .ok (.iadd, 1) := by decide +kernel
theorem dL_law_366 : decode cL_law 366 = .ok (.iaload, 1) := by decide +kernel
theorem dL_law_367 : decode cL_law 367 = .ok (.invokevirtual 40, 3) := by decide +kernel
theorem dL_law_370 : decode cL_law 370 = .ok (.aload_n 2, 1) := by decide +kernel
theorem dL_law_371 : decode cL_law 371 = .ok (.aload_n 0, 1) := by decide +kernel
theorem dL_law_372 : decode cL_law 372 = .ok (.iload_n 3, 1) := by decide +kernel
theorem dL_law_373 : decode cL_law 373 = .ok (.iconst 1, 1) := by decide +kernel
theorem dL_law_374 : decode cL_law 374 = .ok (.iadd, 1) := by decide +kernel
theorem dL_law_375 : decode cL_law 375 = .ok (.iaload, 1) := by decide +kernel
theorem dL_law_376 : decode cL_law 376 = .ok (.aload_n 0, 1) := by decide +kernel
theorem dL_law_377 : decode cL_law 377 = .ok (.iload_n 3, 1) := by decide +kernel
theorem dL_law_378 : decode cL_law 378 = .ok (.iconst 2, 1) := by decide +kernel
theorem dL_law_379 : decode cL_law 379 = .ok (.iadd, 1) := by decide +kernel
theorem dL_law_380 : decode cL_law 380 = .ok (.iaload, 1) := by decide +kernel
theorem dL_law_381 : decode cL_law 381 = .ok (.invokevirtual 43, 3) := by decide +kernel
theorem dL_law_384 : decode cL_law 384 = .ok (.if_icmp .eq 615, 3) := by decide +kernel
theorem dL_law_387 : decode cL_law 387 = .ok (.iconst 0, 1) := by decide +kernel
theorem dL_law_388 : decode cL_law 388 = .ok (.ireturn, 1) := by decide +kernel
theorem dL_law_389 : decode cL_law 389 = .ok (.aload_n 1, 1) := by decide +kernel
theorem dL_law_390 : decode cL_law 390 = .ok (.aload_n 0, 1) := by decide +kernel
theorem dL_law_391 : decode cL_law 391 = .ok (.iload_n 3, 1) := by decide +kernel
theorem dL_law_392 : decode cL_law 392 = .ok (.iconst 1, 1) := by decide +kernel
theorem dL_law_393 : decode cL_law 393 = .ok (.iadd, 1) := by decide +kernel
theorem dL_law_394 : decode cL_law 394 = .ok (.iaload, 1) := by decide +kernel
theorem dL_law_395 : decode cL_law 395 = .ok (.invokevirtual 44, 3) := by decide +kernel
theorem dL_law_398 : decode cL_law 398 = .ok (.aload_n 2, 1) := by decide +kernel
theorem dL_law_399 : decode cL_law 399 = .ok (.aload_n 0, 1) := by decide +kernel
theorem dL_law_400 : decode cL_law 400 = .ok (.iload_n 3, 1) := by decide +kernel
theorem dL_law_401 : decode cL_law 401 = .ok (.iconst 1, 1) := by decide +kernel
theorem dL_law_402 : decode cL_law 402 = .ok (.iadd, 1) := by decide +kernel
theorem dL_law_403 : decode cL_law 403 = .ok (.iaload, 1) := by decide +kernel
theorem dL_law_404 : decode cL_law 404 = .ok (.invokevirtual 47, 3) := by decide +kernel
theorem dL_law_407 : decode cL_law 407 = .ok (.if_icmp .eq 592, 3) := by decide +kernel
theorem dL_law_410 : decode cL_law 410 = .ok (.iconst 0, 1) := by decide +kernel
theorem dL_law_411 : decode cL_law 411 = .ok (.ireturn, 1) := by decide +kernel
theorem dL_law_412 : decode cL_law 412 = .ok (.aload_n 1, 1) := by decide +kernel
theorem dL_law_413 : decode cL_law 413 = .ok (.aload_n 0, 1) := by decide +kernel
theorem dL_law_414 : decode cL_law 414 = .ok (.iload_n 3, 1) := by decide +kernel
theorem dL_law_415 : decode cL_law 415 = .ok (.iconst 1, 1) := by decide +kernel
theorem dL_law_416 : decode cL_law 416 = .ok (.iadd, 1) := by decide +kernel
theorem dL_law_417 : decode cL_law 417 = .ok (.iaload, 1) := by decide +kernel
theorem dL_law_418 : decode cL_law 418 = .ok (.aload_n 0, 1) := by decide +kernel
theorem dL_law_419 : decode cL_law 419 = .ok (.iload_n 3, 1) := by decide +kernel
theorem dL_law_420 : decode cL_law 420 = .ok (.iconst 2, 1) := by decide +kernel
theorem dL_law_421 : decode cL_law 421 = .ok (.iadd, 1) := by decide +kernel
theorem dL_law_422 : decode cL_law 422 = .ok (.iaload, 1) := by decide +kernel
theorem dL_law_423 : decode cL_law 423 = .ok (.aload_n 0, 1) := by decide +kernel
theorem dL_law_424 : decode cL_law 424 = .ok (.iload_n 3, 1) := by decide +kernel
theorem dL_law_425 : decode cL_law 425 = .ok (.iconst 3, 1) := by decide +kernel
theorem dL_law_426 : decode cL_law 426 = .ok (.iadd, 1) := by decide +kernel
theorem dL_law_427 : decode cL_law 427 = .ok (.iaload, 1) := by decide +kernel
theorem dL_law_428 : decode cL_law 428 = .ok (.invokevirtual 48, 3) := by decide +kernel
theorem dL_law_431 : decode cL_law 431 = .ok (.aload_n 2, 1) := by decide +kernel
theorem dL_law_432 : decode cL_law 432 = .ok (.aload_n 0, 1) := by decide +kernel
theorem dL_law_433 : decode cL_law 433 = .ok (.iload_n 3, 1) := by decide +kernel
theorem dL_law_434 : decode cL_law 434 = .ok (.iconst 1, 1) := by decide +kernel
theorem dL_law_435 : decode cL_law 435 = .ok (.iadd, 1) := by decide +kernel
theorem dL_law_436 : decode cL_law 436 = .ok (.iaload, 1) := by decide +kernel
theorem dL_law_437 : decode cL_law 437 = .ok (.aload_n 0, 1) := by decide +kernel
theorem dL_law_438 : decode cL_law 438 = .ok (.iload_n 3, 1) := by decide +kernel
theorem dL_law_439 : decode cL_law 439 = .ok (.iconst 2, 1) := by decide +kernel
theorem dL_law_440 : decode cL_law 440 = .ok (.iadd, 1) := by decide +kernel
theorem dL_law_441 : decode cL_law 441 = .ok (.iaload, 1) := by decide +kernel
theorem dL_law_442 : decode cL_law 442 = .ok (.aload_n 0, 1) := by decide +kernel
theorem dL_law_443 : decode cL_law 443 = .ok (.iload_n 3, 1) := by decide +kernel
theorem dL_law_444 : decode cL_law 444 = .ok (.iconst 3, 1) := by decide +kernel
theorem dL_law_445 : decode cL_law 445 = .ok (.iadd, 1) := by decide +kernel
theorem dL_law_446 : decode cL_law 446 = .ok (.iaload, 1) := by decide +kernel
theorem dL_law_447 : decode cL_law 447 = .ok (.invokevirtual 52, 3) := by decide +kernel
theorem dL_law_450 : decode cL_law 450 = .ok (.if_icmp .eq 549, 3) := by decide +kernel
theorem dL_law_453 : decode cL_law 453 = .ok (.iconst 0, 1) := by decide +kernel
theorem dL_law_454 : decode cL_law 454 = .ok (.ireturn, 1) := by decide +kernel
theorem dL_law_455 : decode cL_law 455 = .ok (.aload_n 1, 1) := by decide +kernel
theorem dL_law_456 : decode cL_law 456 = .ok (.aload_n 0, 1) := by decide +kernel
theorem dL_law_457 : decode cL_law 457 = .ok (.iload_n 3, 1) := by decide +kernel
theorem dL_law_458 : decode cL_law 458 = .ok (.iconst 1, 1) := by decide +kernel
theorem dL_law_459 : decode cL_law 459 = .ok (.iadd, 1) := by decide +kernel
theorem dL_law_460 : decode cL_law 460 = .ok (.iaload, 1) := by decide +kernel
theorem dL_law_461 : decode cL_law 461 = .ok (.invokevirtual 53, 3) := by decide +kernel
theorem dL_law_464 : decode cL_law 464 = .ok (.aload_n 2, 1) := by decide +kernel
theorem dL_law_465 : decode cL_law 465 = .ok (.aload_n 0, 1) := by decide +kernel
theorem dL_law_466 : decode cL_law 466 = .ok (.iload_n 3, 1) := by decide +kernel
theorem dL_law_467 : decode cL_law 467 = .ok (.iconst 1, 1) := by decide +kernel
theorem dL_law_468 : decode cL_law 468 = .ok (.iadd, 1) := by decide +kernel
theorem dL_law_469 : decode cL_law 469 = .ok (.iaload, 1) := by decide +kernel
theorem dL_law_470 : decode cL_law 470 = .ok (.invokevirtual 56, 3) := by decide +kernel
theorem dL_law_473 : decode cL_law 473 = .ok (.if_icmp .eq 526, 3) := by decide +kernel
theorem dL_law_476 : decode cL_law 476 = .ok (.iconst 0, 1) := by decide +kernel
theorem dL_law_477 : decode cL_law 477 = .ok (.ireturn, 1) := by decide +kernel
theorem dL_law_478 : decode cL_law 478 = .ok (.aload_n 1, 1) := by decide +kernel
theorem dL_law_479 : decode cL_law 479 = .ok (.aload_n 0, 1) := by decide +kernel
theorem dL_law_480 : decode cL_law 480 = .ok (.iload_n 3, 1) := by decide +kernel
theorem dL_law_481 : decode cL_law 481 = .ok (.iconst 1, 1) := by decide +kernel
theorem dL_law_482 : decode cL_law 482 = .ok (.iadd, 1) := by decide +kernel
theorem dL_law_483 : decode cL_law 483 = .ok (.iaload, 1) := by decide +kernel
theorem dL_law_484 : decode cL_law 484 = .ok (.aload_n 0, 1) := by decide +kernel
theorem dL_law_485 : decode cL_law 485 = .ok (.iload_n 3, 1) := by decide +kernel
theorem dL_law_486 : decode cL_law 486 = .ok (.iconst 2, 1) := by decide +kernel
theorem dL_law_487 : decode cL_law 487 = .ok (.iadd, 1) := by decide +kernel
theorem dL_law_488 : decode cL_law 488 = .ok (.iaload, 1) := by decide +kernel
theorem dL_law_489 : decode cL_law 489 = .ok (.aload_n 0, 1) := by decide +kernel
theorem dL_law_490 : decode cL_law 490 = .ok (.iload_n 3, 1) := by decide +kernel
theorem dL_law_491 : decode cL_law 491 = .ok (.iconst 3, 1) := by decide +kernel
theorem dL_law_492 : decode cL_law 492 = .ok (.iadd, 1) := by decide +kernel
theorem dL_law_493 : decode cL_law 493 = .ok (.iaload, 1) := by decide +kernel
theorem dL_law_494 : decode cL_law 494 = .ok (.aload_n 0, 1) := by decide +kernel
theorem dL_law_495 : decode cL_law 495 = .ok (.iload_n 3, 1) := by decide +kernel
theorem dL_law_496 : decode cL_law 496 = .ok (.iconst 4, 1) := by decide +kernel
theorem dL_law_497 : decode cL_law 497 = .ok (.iadd, 1) := by decide +kernel
theorem dL_law_498 : decode cL_law 498 = .ok (.iaload, 1) := by decide +kernel
theorem dL_law_499 : decode cL_law 499 = .ok (.invokevirtual 57, 3) := by decide +kernel
theorem dL_law_502 : decode cL_law 502 = .ok (.aload_n 2, 1) := by decide +kernel
theorem dL_law_503 : decode cL_law 503 = .ok (.aload_n 0, 1) := by decide +kernel
theorem dL_law_504 : decode cL_law 504 = .ok (.iload_n 3, 1) := by decide +kernel
theorem dL_law_505 : decode cL_law 505 = .ok (.iconst 1, 1) := by decide +kernel
theorem dL_law_506 : decode cL_law 506 = .ok (.iadd, 1) := by decide +kernel
theorem dL_law_507 : decode cL_law 507 = .ok (.iaload, 1) := by decide +kernel
theorem dL_law_508 : decode cL_law 508 = .ok (.aload_n 0, 1) := by decide +kernel
theorem dL_law_509 : decode cL_law 509 = .ok (.iload_n 3, 1) := by decide +kernel
theorem dL_law_510 : decode cL_law 510 = .ok (.iconst 2, 1) := by decide +kernel
theorem dL_law_511 : decode cL_law 511 = .ok (.iadd, 1) := by decide +kernel
theorem dL_law_512 : decode cL_law 512 = .ok (.iaload, 1) := by decide +kernel
theorem dL_law_513 : decode cL_law 513 = .ok (.aload_n 0, 1) := by decide +kernel
theorem dL_law_514 : decode cL_law 514 = .ok (.iload_n 3, 1) := by decide +kernel
theorem dL_law_515 : decode cL_law 515 = .ok (.iconst 3, 1) := by decide +kernel
theorem dL_law_516 : decode cL_law 516 = .ok (.iadd, 1) := by decide +kernel
theorem dL_law_517 : decode cL_law 517 = .ok (.iaload, 1) := by decide +kernel
theorem dL_law_518 : decode cL_law 518 = .ok (.aload_n 0, 1) := by decide +kernel
theorem dL_law_519 : decode cL_law 519 = .ok (.iload_n 3, 1) := by decide +kernel
theorem dL_law_520 : decode cL_law 520 = .ok (.iconst 4, 1) := by decide +kernel
theorem dL_law_521 : decode cL_law 521 = .ok (.iadd, 1) := by decide +kernel
theorem dL_law_522 : decode cL_law 522 = .ok (.iaload, 1) := by decide +kernel
theorem dL_law_523 : decode cL_law 523 = .ok (.invokevirtual 60, 3) := by decide +kernel
theorem dL_law_526 : decode cL_law 526 = .ok (.if_icmp .eq 473, 3) := by decide +kernel
theorem dL_law_529 : decode cL_law 529 = .ok (.iconst 0, 1) := by decide +kernel
theorem dL_law_530 : decode cL_law 530 = .ok (.ireturn, 1) := by decide +kernel
theorem dL_law_531 : decode cL_law 531 = .ok (.aload_n 1, 1) := by decide +kernel
theorem dL_law_532 : decode cL_law 532 = .ok (.aload_n 0, 1) := by decide +kernel
theorem dL_law_533 : decode cL_law 533 = .ok (.iload_n 3, 1) := by decide +kernel
theorem dL_law_534 : decode cL_law 534 = .ok (.iconst 1, 1) := by decide +kernel
theorem dL_law_535 : decode cL_law 535 = .ok (.iadd, 1) := by decide +kernel
theorem dL_law_536 : decode cL_law 536 = .ok (.iaload, 1) := by decide +kernel
theorem dL_law_537 : decode cL_law 537 = .ok (.aload_n 0, 1) := by decide +kernel
theorem dL_law_538 : decode cL_law 538 = .ok (.iload_n 3, 1) := by decide +kernel
theorem dL_law_539 : decode cL_law 539 = .ok (.iconst 2, 1) := by decide +kernel
theorem dL_law_540 : decode cL_law 540 = .ok (.iadd, 1) := by decide +kernel
theorem dL_law_541 : decode cL_law 541 = .ok (.iaload, 1) := by decide +kernel
theorem dL_law_542 : decode cL_law 542 = .ok (.aload_n 0, 1) := by decide +kernel
theorem dL_law_543 : decode cL_law 543 = .ok (.iload_n 3, 1) := by decide +kernel
theorem dL_law_544 : decode cL_law 544 = .ok (.iconst 3, 1) := by decide +kernel
theorem dL_law_545 : decode cL_law 545 = .ok (.iadd, 1) := by decide +kernel
theorem dL_law_546 : decode cL_law 546 = .ok (.iaload, 1) := by decide +kernel
theorem dL_law_547 : decode cL_law 547 = .ok (.aload_n 0, 1) := by decide +kernel
theorem dL_law_548 : decode cL_law 548 = .ok (.iload_n 3, 1) := by decide +kernel
theorem dL_law_549 : decode cL_law 549 = .ok (.iconst 4, 1) := by decide +kernel
theorem dL_law_550 : decode cL_law 550 = .ok (.iadd, 1) := by decide +kernel
theorem dL_law_551 : decode cL_law 551 = .ok (.iaload, 1) := by decide +kernel
theorem dL_law_552 : decode cL_law 552 = .ok (.aload_n 0, 1) := by decide +kernel
theorem dL_law_553 : decode cL_law 553 = .ok (.iload_n 3, 1) := by decide +kernel
theorem dL_law_554 : decode cL_law 554 = .ok (.iconst 5, 1) := by decide +kernel
theorem dL_law_555 : decode cL_law 555 = .ok (.iadd, 1) := by decide +kernel
theorem dL_law_556 : decode cL_law 556 = .ok (.iaload, 1) := by decide +kernel
theorem dL_law_557 : decode cL_law 557 = .ok (.invokevirtual 61, 3) := by decide +kernel
theorem dL_law_560 : decode cL_law 560 = .ok (.aload_n 2, 1) := by decide +kernel
theorem dL_law_561 : decode cL_law 561 = .ok (.aload_n 0, 1) := by decide +kernel
theorem dL_law_562 : decode cL_law 562 = .ok (.iload_n 3, 1) := by decide +kernel
theorem dL_law_563 : decode cL_law 563 = .ok (.iconst 1, 1) := by decide +kernel
theorem dL_law_564 : decode cL_law 564 = .ok (.iadd, 1) := by decide +kernel
theorem dL_law_565 : decode cL_law 565 = .ok (.iaload, 1) := by decide +kernel
theorem dL_law_566 : decode cL_law 566 = .ok (.aload_n 0, 1) := by decide +kernel
theorem dL_law_567 : decode cL_law 567 = .ok (.iload_n 3, 1) := by decide +kernel
theorem dL_law_568 : decode cL_law 568 = .ok (.iconst 2, 1) := by decide +kernel
theorem dL_law_569 : decode cL_law 569 = .ok (.iadd, 1) := by decide +kernel
theorem dL_law_570 : decode cL_law 570 = .ok (.iaload, 1) := by decide +kernel
theorem dL_law_571 : decode cL_law 571 = .ok (.aload_n 0, 1) := by decide +kernel
theorem dL_law_572 : decode cL_law 572 = .ok (.iload_n 3, 1) := by decide +kernel
theorem dL_law_573 : decode cL_law 573 = .ok (.iconst 3, 1) := by decide +kernel
theorem dL_law_574 : decode cL_law 574 = .ok (.iadd, 1) := by decide +kernel
theorem dL_law_575 : decode cL_law 575 = .ok (.iaload, 1) := by decide +kernel
theorem dL_law_576 : decode cL_law 576 = .ok (.aload_n 0, 1) := by decide +kernel
theorem dL_law_577 : decode cL_law 577 = .ok (.iload_n 3, 1) := by decide +kernel
theorem dL_law_578 : decode cL_law 578 = .ok (.iconst 4, 1) := by decide +kernel
theorem dL_law_579 : decode cL_law 579 = .ok (.iadd, 1) := by decide +kernel
theorem dL_law_580 : decode cL_law 580 = .ok (.iaload, 1) := by decide +kernel
theorem dL_law_581 : decode cL_law 581 = .ok (.aload_n 0, 1) := by decide +kernel
theorem dL_law_582 : decode cL_law 582 = .ok (.iload_n 3, 1) := by decide +kernel
theorem dL_law_583 : decode cL_law 583 = .ok (.iconst 5, 1) := by decide +kernel
theorem dL_law_584 : decode cL_law 584 = .ok (.iadd, 1) := by decide +kernel
theorem dL_law_585 : decode cL_law 585 = .ok (.iaload, 1) := by decide +kernel
theorem dL_law_586 : decode cL_law 586 = .ok (.invokevirtual 65, 3) := by decide +kernel
theorem dL_law_589 : decode cL_law 589 = .ok (.if_icmp .eq 410, 3) := by decide +kernel
theorem dL_law_592 : decode cL_law 592 = .ok (.iconst 0, 1) := by decide +kernel
theorem dL_law_593 : decode cL_law 593 = .ok (.ireturn, 1) := by decide +kernel
theorem dL_law_594 : decode cL_law 594 = .ok (.aload_n 1, 1) := by decide +kernel
theorem dL_law_595 : decode cL_law 595 = .ok (.aload_n 0, 1) := by decide +kernel
theorem dL_law_596 : decode cL_law 596 = .ok (.iload_n 3, 1) := by decide +kernel
theorem dL_law_597 : decode cL_law 597 = .ok (.iconst 1, 1) := by decide +kernel
theorem dL_law_598 : decode cL_law 598 = .ok (.iadd, 1) := by decide +kernel
theorem dL_law_599 : decode cL_law 599 = .ok (.iaload, 1) := by decide +kernel
theorem dL_law_600 : decode cL_law 600 = .ok (.aload_n 0, 1) := by decide +kernel
theorem dL_law_601 : decode cL_law 601 = .ok (.iload_n 3, 1) := by decide +kernel
theorem dL_law_602 : decode cL_law 602 = .ok (.iconst 2, 1) := by decide +kernel
theorem dL_law_603 : decode cL_law 603 = .ok (.iadd, 1) := by decide +kernel
theorem dL_law_604 : decode cL_law 604 = .ok (.iaload, 1) := by decide +kernel
theorem dL_law_605 : decode cL_law 605 = .ok (.aload_n 0, 1) := by decide +kernel
theorem dL_law_606 : decode cL_law 606 = .ok (.iload_n 3, 1) := by decide +kernel
theorem dL_law_607 : decode cL_law 607 = .ok (.iconst 3, 1) := by decide +kernel
theorem dL_law_608 : decode cL_law 608 = .ok (.iadd, 1) := by decide +kernel
theorem dL_law_609 : decode cL_law 609 = .ok (.iaload, 1) := by decide +kernel
theorem dL_law_610 : decode cL_law 610 = .ok (.aload_n 0, 1) := by decide +kernel
theorem dL_law_611 : decode cL_law 611 = .ok (.iload_n 3, 1) := by decide +kernel
theorem dL_law_612 : decode cL_law 612 = .ok (.iconst 4, 1) := by decide +kernel
theorem dL_law_613 : decode cL_law 613 = .ok (.iadd, 1) := by decide +kernel
theorem dL_law_614 : decode cL_law 614 = .ok (.iaload, 1) := by decide +kernel
theorem dL_law_615 : decode cL_law 615 = .ok (.aload_n 0, 1) := by decide +kernel
theorem dL_law_616 : decode cL_law 616 = .ok (.iload_n 3, 1) := by decide +kernel
theorem dL_law_617 : decode cL_law 617 = .ok (.iconst 5, 1) := by decide +kernel
theorem dL_law_618 : decode cL_law 618 = .ok (.iadd, 1) := by decide +kernel
theorem dL_law_619 : decode cL_law 619 = .ok (.iaload, 1) := by decide +kernel
theorem dL_law_620 : decode cL_law 620 = .ok (.invokevirtual 66, 3) := by decide +kernel
theorem dL_law_623 : decode cL_law 623 = .ok (.aload_n 2, 1) := by decide +kernel
theorem dL_law_624 : decode cL_law 624 = .ok (.aload_n 0, 1) := by decide +kernel
theorem dL_law_625 : decode cL_law 625 = .ok (.iload_n 3, 1) := by decide +kernel
theorem dL_law_626 : decode cL_law 626 = .ok (.iconst 1, 1) := by decide +kernel
theorem dL_law_627 : decode cL_law 627 = .ok (.iadd, 1) := by decide +kernel
theorem dL_law_628 : decode cL_law 628 = .ok (.iaload, 1) := by decide +kernel
theorem dL_law_629 : decode cL_law 629 = .ok (.aload_n 0, 1) := by decide +kernel
theorem dL_law_630 : decode cL_law 630 = .ok (.iload_n 3, 1) := by decide +kernel
theorem dL_law_631 : decode cL_law 631 = .ok (.iconst 2, 1) := by decide +kernel
theorem dL_law_632 : decode cL_law 632 = .ok (.iadd, 1) := by decide +kernel
theorem dL_law_633 : decode cL_law 633 = .ok (.iaload, 1) := by decide +kernel
theorem dL_law_634 : decode cL_law 634 = .ok (.aload_n 0, 1) := by decide +kernel
theorem dL_law_635 : decode cL_law 635 = .ok (.iload_n 3, 1) := by decide +kernel
theorem dL_law_636 : decode cL_law 636 = .ok (.iconst 3, 1) := by decide +kernel
theorem dL_law_637 : decode cL_law 637 = .ok (.iadd, 1) := by decide +kernel
theorem dL_law_638 : decode cL_law 638 = .ok (.iaload, 1) := by decide +kernel
theorem dL_law_639 : decode cL_law 639 = .ok (.aload_n 0, 1) := by decide +kernel
theorem dL_law_640 : decode cL_law 640 = .ok (.iload_n 3, 1) := by decide +kernel
theorem dL_law_641 : decode cL_law 641 = .ok (.iconst 4, 1) := by decide +kernel
theorem dL_law_642 : decode cL_law 642 = .ok (.iadd, 1) := by decide +kernel
theorem dL_law_643 : decode cL_law 643 = .ok (.iaload, 1) := by decide +kernel
theorem dL_law_644 : decode cL_law 644 = .ok (.aload_n 0, 1) := by decide +kernel
theorem dL_law_645 : decode cL_law 645 = .ok (.iload_n 3, 1) := by decide +kernel
theorem dL_law_646 : decode cL_law 646 = .ok (.iconst 5, 1) := by decide +kernel
theorem dL_law_647 : decode cL_law 647 = .ok (.iadd, 1) := by decide +kernel
theorem dL_law_648 : decode cL_law 648 = .ok (.iaload, 1) := by decide +kernel
theorem dL_law_649 : decode cL_law 649 = .ok (.invokevirtual 69, 3) := by decide +kernel
theorem dL_law_652 : decode cL_law 652 = .ok (.if_icmp .eq 347, 3) := by decide +kernel
theorem dL_law_655 : decode cL_law 655 = .ok (.iconst 0, 1) := by decide +kernel
theorem dL_law_656 : decode cL_law 656 = .ok (.ireturn, 1) := by decide +kernel
theorem dL_law_657 : decode cL_law 657 = .ok (.aload_n 1, 1) := by decide +kernel
theorem dL_law_658 : decode cL_law 658 = .ok (.aload_n 0, 1) := by decide +kernel
theorem dL_law_659 : decode cL_law 659 = .ok (.iload_n 3, 1) := by decide +kernel
theorem dL_law_660 : decode cL_law 660 = .ok (.iconst 1, 1) := by decide +kernel
theorem dL_law_661 : decode cL_law 661 = .ok (.iadd, 1) := by decide +kernel
theorem dL_law_662 : decode cL_law 662 = .ok (.iaload, 1) := by decide +kernel
theorem dL_law_663 : decode cL_law 663 = .ok (.invokevirtual 70, 3) := by decide +kernel
theorem dL_law_666 : decode cL_law 666 = .ok (.aload_n 2, 1) := by decide +kernel
theorem dL_law_667 : decode cL_law 667 = .ok (.aload_n 0, 1) := by decide +kernel
theorem dL_law_668 : decode cL_law 668 = .ok (.iload_n 3, 1) := by decide +kernel
theorem dL_law_669 : decode cL_law 669 = .ok (.iconst 1, 1) := by decide +kernel
theorem dL_law_670 : decode cL_law 670 = .ok (.iadd, 1) := by decide +kernel
theorem dL_law_671 : decode cL_law 671 = .ok (.iaload, 1) := by decide +kernel
theorem dL_law_672 : decode cL_law 672 = .ok (.invokevirtual 73, 3) := by decide +kernel
theorem dL_law_675 : decode cL_law 675 = .ok (.if_icmp .eq 324, 3) := by decide +kernel
theorem dL_law_678 : decode cL_law 678 = .ok (.iconst 0, 1) := by decide +kernel
theorem dL_law_679 : decode cL_law 679 = .ok (.ireturn, 1) := by decide +kernel
theorem dL_law_680 : decode cL_law 680 = .ok (.aload_n 1, 1) := by decide +kernel
theorem dL_law_681 : decode cL_law 681 = .ok (.aload_n 0, 1) := by decide +kernel
theorem dL_law_682 : decode cL_law 682 = .ok (.iload_n 3, 1) := by decide +kernel
theorem dL_law_683 : decode cL_law 683 = .ok (.iconst 1, 1) := by decide +kernel
theorem dL_law_684 : decode cL_law 684 = .ok (.iadd, 1) := by decide +kernel
theorem dL_law_685 : decode cL_law 685 = .ok (.iaload, 1) := by decide +kernel
theorem dL_law_686 : decode cL_law 686 = .ok (.aload_n 0, 1) := by decide +kernel
theorem dL_law_687 : decode cL_law 687 = .ok (.iload_n 3, 1) := by decide +kernel
theorem dL_law_688 : decode cL_law 688 = .ok (.iconst 2, 1) := by decide +kernel
theorem dL_law_689 : decode cL_law 689 = .ok (.iadd, 1) := by decide +kernel
theorem dL_law_690 : decode cL_law 690 = .ok (.iaload, 1) := by decide +kernel
theorem dL_law_691 : decode cL_law 691 = .ok (.aload_n 0, 1) := by decide +kernel
theorem dL_law_692 : decode cL_law 692 = .ok (.iload_n 3, 1) := by decide +kernel
theorem dL_law_693 : decode cL_law 693 = .ok (.iconst 3, 1) := by decide +kernel
theorem dL_law_694 : decode cL_law 694 = .ok (.iadd, 1) := by decide +kernel
theorem dL_law_695 : decode cL_law 695 = .ok (.iaload, 1) := by decide +kernel
theorem dL_law_696 : decode cL_law 696 = .ok (.invokevirtual 74, 3) := by decide +kernel
theorem dL_law_699 : decode cL_law 699 = .ok (.aload_n 2, 1) := by decide +kernel
theorem dL_law_700 : decode cL_law 700 = .ok (.aload_n 0, 1) := by decide +kernel
theorem dL_law_701 : decode cL_law 701 = .ok (.iload_n 3, 1) := by decide +kernel
theorem dL_law_702 : decode cL_law 702 = .ok (.iconst 1, 1) := by decide +kernel
theorem dL_law_703 : decode cL_law 703 = .ok (.iadd, 1) := by decide +kernel
theorem dL_law_704 : decode cL_law 704 = .ok (.iaload, 1) := by decide +kernel
theorem dL_law_705 : decode cL_law 705 = .ok (.aload_n 0, 1) := by decide +kernel
theorem dL_law_706 : decode cL_law 706 = .ok (.iload_n 3, 1) := by decide +kernel
theorem dL_law_707 : decode cL_law 707 = .ok (.iconst 2, 1) := by decide +kernel
theorem dL_law_708 : decode cL_law 708 = .ok (.iadd, 1) := by decide +kernel
theorem dL_law_709 : decode cL_law 709 = .ok (.iaload, 1) := by decide +kernel
theorem dL_law_710 : decode cL_law 710 = .ok (.aload_n 0, 1) := by decide +kernel
theorem dL_law_711 : decode cL_law 711 = .ok (.iload_n 3, 1) := by decide +kernel
theorem dL_law_712 : decode cL_law 712 = .ok (.iconst 3, 1) := by decide +kernel
theorem dL_law_713 : decode cL_law 713 = .ok (.iadd, 1) := by decide +kernel
theorem dL_law_714 : decode cL_law 714 = .ok (.iaload, 1) := by decide +kernel
theorem dL_law_715 : decode cL_law 715 = .ok (.invokevirtual 77, 3) := by decide +kernel
theorem dL_law_718 : decode cL_law 718 = .ok (.if_icmp .eq 281, 3) := by decide +kernel
theorem dL_law_721 : decode cL_law 721 = .ok (.iconst 0, 1) := by decide +kernel
theorem dL_law_722 : decode cL_law 722 = .ok (.ireturn, 1) := by decide +kernel
theorem dL_law_723 : decode cL_law 723 = .ok (.aload_n 1, 1) := by decide +kernel
theorem dL_law_724 : decode cL_law 724 = .ok (.aload_n 0, 1) := by decide +kernel
theorem dL_law_725 : decode cL_law 725 = .ok (.iload_n 3, 1) := by decide +kernel
theorem dL_law_726 : decode cL_law 726 = .ok (.iconst 1, 1) := by decide +kernel
theorem dL_law_727 : decode cL_law 727 = .ok (.iadd, 1) := by decide +kernel
theorem dL_law_728 : decode cL_law 728 = .ok (.iaload, 1) := by decide +kernel
theorem dL_law_729 : decode cL_law 729 = .ok (.aload_n 0, 1) := by decide +kernel
theorem dL_law_730 : decode cL_law 730 = .ok (.iload_n 3, 1) := by decide +kernel
theorem dL_law_731 : decode cL_law 731 = .ok (.iconst 2, 1) := by decide +kernel
theorem dL_law_732 : decode cL_law 732 = .ok (.iadd, 1) := by decide +kernel
theorem dL_law_733 : decode cL_law 733 = .ok (.iaload, 1) := by decide +kernel
theorem dL_law_734 : decode cL_law 734 = .ok (.invokevirtual 78, 3) := by decide +kernel
theorem dL_law_737 : decode cL_law 737 = .ok (.aload_n 2, 1) := by decide +kernel
theorem dL_law_738 : decode cL_law 738 = .ok (.aload_n 0, 1) := by decide +kernel
theorem dL_law_739 : decode cL_law 739 = .ok (.iload_n 3, 1) := by decide +kernel
theorem dL_law_740 : decode cL_law 740 = .ok (.iconst 1, 1) := by decide +kernel
theorem dL_law_741 : decode cL_law 741 = .ok (.iadd, 1) := by decide +kernel
theorem dL_law_742 : decode cL_law 742 = .ok (.iaload, 1) := by decide +kernel
theorem dL_law_743 : decode cL_law 743 = .ok (.aload_n 0, 1) := by decide +kernel
theorem dL_law_744 : decode cL_law 744 = .ok (.iload_n 3, 1) := by decide +kernel
theorem dL_law_745 : decode cL_law 745 = .ok (.iconst 2, 1) := by decide +kernel
theorem dL_law_746 : decode cL_law 746 = .ok (.iadd, 1) := by decide +kernel
theorem dL_law_747 : decode cL_law 747 = .ok (.iaload, 1) := by decide +kernel
theorem dL_law_748 : decode cL_law 748 = .ok (.invokevirtual 81, 3) := by decide +kernel
theorem dL_law_751 : decode cL_law 751 = .ok (.if_icmp .eq 248, 3) := by decide +kernel
theorem dL_law_754 : decode cL_law 754 = .ok (.iconst 0, 1) := by decide +kernel
theorem dL_law_755 : decode cL_law 755 = .ok (.ireturn, 1) := by decide +kernel
theorem dL_law_756 : decode cL_law 756 = .ok (.aload_n 1, 1) := by decide +kernel
theorem dL_law_757 : decode cL_law 757 = .ok (.aload_n 0, 1) := by decide +kernel
theorem dL_law_758 : decode cL_law 758 = .ok (.iload_n 3, 1) := by decide +kernel
theorem dL_law_759 : decode cL_law 759 = .ok (.iconst 1, 1) := by decide +kernel
theorem dL_law_760 : decode cL_law 760 = .ok (.iadd, 1) := by decide +kernel
theorem dL_law_761 : decode cL_law 761 = .ok (.iaload, 1) := by decide +kernel
theorem dL_law_762 : decode cL_law 762 = .ok (.aload_n 0, 1) := by decide +kernel
theorem dL_law_763 : decode cL_law 763 = .ok (.iload_n 3, 1) := by decide +kernel
theorem dL_law_764 : decode cL_law 764 = .ok (.iconst 2, 1) := by decide +kernel
theorem dL_law_765 : decode cL_law 765 = .ok (.iadd, 1) := by decide +kernel
theorem dL_law_766 : decode cL_law 766 = .ok (.iaload, 1) := by decide +kernel
theorem dL_law_767 : decode cL_law 767 = .ok (.invokevirtual 82, 3) := by decide +kernel
theorem dL_law_770 : decode cL_law 770 = .ok (.aload_n 2, 1) := by decide +kernel
theorem dL_law_771 : decode cL_law 771 = .ok (.aload_n 0, 1) := by decide +kernel
theorem dL_law_772 : decode cL_law 772 = .ok (.iload_n 3, 1) := by decide +kernel
theorem dL_law_773 : decode cL_law 773 = .ok (.iconst 1, 1) := by decide +kernel
theorem dL_law_774 : decode cL_law 774 = .ok (.iadd, 1) := by decide +kernel
theorem dL_law_775 : decode cL_law 775 = .ok (.iaload, 1) := by decide +kernel
theorem dL_law_776 : decode cL_law 776 = .ok (.aload_n 0, 1) := by decide +kernel
theorem dL_law_777 : decode cL_law 777 = .ok (.iload_n 3, 1) := by decide +kernel
theorem dL_law_778 : decode cL_law 778 = .ok (.iconst 2, 1) := by decide +kernel
theorem dL_law_779 : decode cL_law 779 = .ok (.iadd, 1) := by decide +kernel
theorem dL_law_780 : decode cL_law 780 = .ok (.iaload, 1) := by decide +kernel
theorem dL_law_781 : decode cL_law 781 = .ok (.invokevirtual 85, 3) := by decide +kernel
theorem dL_law_784 : decode cL_law 784 = .ok (.if_icmp .eq 215, 3) := by decide +kernel
theorem dL_law_787 : decode cL_law 787 = .ok (.iconst 0, 1) := by decide +kernel
theorem dL_law_788 : decode cL_law 788 = .ok (.ireturn, 1) := by decide +kernel
theorem dL_law_789 : decode cL_law 789 = .ok (.aload_n 1, 1) := by decide +kernel
theorem dL_law_790 : decode cL_law 790 = .ok (.aload_n 0, 1) := by decide +kernel
theorem dL_law_791 : decode cL_law 791 = .ok (.iload_n 3, 1) := by decide +kernel
theorem dL_law_792 : decode cL_law 792 = .ok (.iconst 1, 1) := by decide +kernel
theorem dL_law_793 : decode cL_law 793 = .ok (.iadd, 1) := by decide +kernel
theorem dL_law_794 : decode cL_law 794 = .ok (.iaload, 1) := by decide +kernel
theorem dL_law_795 : decode cL_law 795 = .ok (.aload_n 0, 1) := by decide +kernel
theorem dL_law_796 : decode cL_law 796 = .ok (.iload_n 3, 1) := by decide +kernel
theorem dL_law_797 : decode cL_law 797 = .ok (.iconst 2, 1) := by decide +kernel
theorem dL_law_798 : decode cL_law 798 = .ok (.iadd, 1) := by decide +kernel
theorem dL_law_799 : decode cL_law 799 = .ok (.iaload, 1) := by decide +kernel
theorem dL_law_800 : decode cL_law 800 = .ok (.invokevirtual 86, 3) := by decide +kernel
theorem dL_law_803 : decode cL_law 803 = .ok (.aload_n 2, 1) := by decide +kernel
theorem dL_law_804 : decode cL_law 804 = .ok (.aload_n 0, 1) := by decide +kernel
theorem dL_law_805 : decode cL_law 805 = .ok (.iload_n 3, 1) := by decide +kernel
theorem dL_law_806 : decode cL_law 806 = .ok (.iconst 1, 1) := by decide +kernel
theorem dL_law_807 : decode cL_law 807 = .ok (.iadd, 1) := by decide +kernel
theorem dL_law_808 : decode cL_law 808 = .ok (.iaload, 1) := by decide +kernel
theorem dL_law_809 : decode cL_law 809 = .ok (.aload_n 0, 1) := by decide +kernel
theorem dL_law_810 : decode cL_law 810 = .ok (.iload_n 3, 1) := by decide +kernel
theorem dL_law_811 : decode cL_law 811 = .ok (.iconst 2, 1) := by decide +kernel
theorem dL_law_812 : decode cL_law 812 = .ok (.iadd, 1) := by decide +kernel
theorem dL_law_813 : decode cL_law 813 = .ok (.iaload, 1) := by decide +kernel
theorem dL_law_814 : decode cL_law 814 = .ok (.invokevirtual 89, 3) := by decide +kernel
theorem dL_law_817 : decode cL_law 817 = .ok (.if_icmp .eq 182, 3) := by decide +kernel
theorem dL_law_820 : decode cL_law 820 = .ok (.iconst 0, 1) := by decide +kernel
theorem dL_law_821 : decode cL_law 821 = .ok (.ireturn, 1) := by decide +kernel
theorem dL_law_822 : decode cL_law 822 = .ok (.aload_n 1, 1) := by decide +kernel
theorem dL_law_823 : decode cL_law 823 = .ok (.aload_n 0, 1) := by decide +kernel
theorem dL_law_824 : decode cL_law 824 = .ok (.iload_n 3, 1) := by decide +kernel
theorem dL_law_825 : decode cL_law 825 = .ok (.iconst 1, 1) := by decide +kernel
theorem dL_law_826 : decode cL_law 826 = .ok (.iadd, 1) := by decide +kernel
theorem dL_law_827 : decode cL_law 827 = .ok (.iaload, 1) := by decide +kernel
theorem dL_law_828 : decode cL_law 828 = .ok (.aload_n 0, 1) := by decide +kernel
theorem dL_law_829 : decode cL_law 829 = .ok (.iload_n 3, 1) := by decide +kernel
theorem dL_law_830 : decode cL_law 830 = .ok (.iconst 2, 1) := by decide +kernel
theorem dL_law_831 : decode cL_law 831 = .ok (.iadd, 1) := by decide +kernel
theorem dL_law_832 : decode cL_law 832 = .ok (.iaload, 1) := by decide +kernel
theorem dL_law_833 : decode cL_law 833 = .ok (.invokevirtual 90, 3) := by decide +kernel
theorem dL_law_836 : decode cL_law 836 = .ok (.aload_n 2, 1) := by decide +kernel
theorem dL_law_837 : decode cL_law 837 = .ok (.aload_n 0, 1) := by decide +kernel
theorem dL_law_838 : decode cL_law 838 = .ok (.iload_n 3, 1) := by decide +kernel
theorem dL_law_839 : decode cL_law 839 = .ok (.iconst 1, 1) := by decide +kernel
theorem dL_law_840 : decode cL_law 840 = .ok (.iadd, 1) := by decide +kernel
theorem dL_law_841 : decode cL_law 841 = .ok (.iaload, 1) := by decide +kernel
theorem dL_law_842 : decode cL_law 842 = .ok (.aload_n 0, 1) := by decide +kernel
theorem dL_law_843 : decode cL_law 843 = .ok (.iload_n 3, 1) := by decide +kernel
theorem dL_law_844 : decode cL_law 844 = .ok (.iconst 2, 1) := by decide +kernel
theorem dL_law_845 : decode cL_law 845 = .ok (.iadd, 1) := by decide +kernel
theorem dL_law_846 : decode cL_law 846 = .ok (.iaload, 1) := by decide +kernel
theorem dL_law_847 : decode cL_law 847 = .ok (.invokevirtual 93, 3) := by decide +kernel
theorem dL_law_850 : decode cL_law 850 = .ok (.if_icmp .eq 149, 3) := by decide +kernel
theorem dL_law_853 : decode cL_law 853 = .ok (.iconst 0, 1) := by decide +kernel
theorem dL_law_854 : decode cL_law 854 = .ok (.ireturn, 1) := by decide +kernel
theorem dL_law_855 : decode cL_law 855 = .ok (.aload_n 1, 1) := by decide +kernel
theorem dL_law_856 : decode cL_law 856 = .ok (.invokevirtual 94, 3) := by decide +kernel
theorem dL_law_859 : decode cL_law 859 = .ok (.aload_n 2, 1) := by decide +kernel
theorem dL_law_860 : decode cL_law 860 = .ok (.invokevirtual 98, 3) := by decide +kernel
theorem dL_law_863 : decode cL_law 863 = .ok (.if_icmp .eq 136, 3) := by decide +kernel
theorem dL_law_866 : decode cL_law 866 = .ok (.iconst 0, 1) := by decide +kernel
theorem dL_law_867 : decode cL_law 867 = .ok (.ireturn, 1) := by decide +kernel
theorem dL_law_868 : decode cL_law 868 = .ok (.aload_n 1, 1) := by decide +kernel
theorem dL_law_869 : decode cL_law 869 = .ok (.aload_n 0, 1) := by decide +kernel
theorem dL_law_870 : decode cL_law 870 = .ok (.iload_n 3, 1) := by decide +kernel
theorem dL_law_871 : decode cL_law 871 = .ok (.iconst 1, 1) := by decide +kernel
theorem dL_law_872 : decode cL_law 872 = .ok (.iadd, 1) := by decide +kernel
theorem dL_law_873 : decode cL_law 873 = .ok (.iaload, 1) := by decide +kernel
theorem dL_law_874 : decode cL_law 874 = .ok (.invokevirtual 99, 3) := by decide +kernel
theorem dL_law_877 : decode cL_law 877 = .ok (.aload_n 2, 1) := by decide +kernel
theorem dL_law_878 : decode cL_law 878 = .ok (.aload_n 0, 1) := by decide +kernel
theorem dL_law_879 : decode cL_law 879 = .ok (.iload_n 3, 1) := by decide +kernel
theorem dL_law_880 : decode cL_law 880 = .ok (.iconst 1, 1) := by decide +kernel
theorem dL_law_881 : decode cL_law 881 = .ok (.iadd, 1) := by decide +kernel
theorem dL_law_882 : decode cL_law 882 = .ok (.iaload, 1) := by decide +kernel
theorem dL_law_883 : decode cL_law 883 = .ok (.invokevirtual 102, 3) := by decide +kernel
theorem dL_law_886 : decode cL_law 886 = .ok (.if_icmp .eq 113, 3) := by decide +kernel
theorem dL_law_889 : decode cL_law 889 = .ok (.iconst 0, 1) := by decide +kernel
theorem dL_law_890 : decode cL_law 890 = .ok (.ireturn, 1) := by decide +kernel
theorem dL_law_891 : decode cL_law 891 = .ok (.aload_n 1, 1) := by decide +kernel
theorem dL_law_892 : decode cL_law 892 = .ok (.aload_n 0, 1) := by decide +kernel
theorem dL_law_893 : decode cL_law 893 = .ok (.iload_n 3, 1) := by decide +kernel
theorem dL_law_894 : decode cL_law 894 = .ok (.iconst 1, 1) := by decide +kernel
theorem dL_law_895 : decode cL_law 895 = .ok (.iadd, 1) := by decide +kernel
theorem dL_law_896 : decode cL_law 896 = .ok (.iaload, 1) := by decide +kernel
theorem dL_law_897 : decode cL_law 897 = .ok (.aload_n 0, 1) := by decide +kernel
theorem dL_law_898 : decode cL_law 898 = .ok (.iload_n 3, 1) := by decide +kernel
theorem dL_law_899 : decode cL_law 899 = .ok (.iconst 2, 1) := by decide +kernel
theorem dL_law_900 : decode cL_law 900 = .ok (.iadd, 1) := by decide +kernel
theorem dL_law_901 : decode cL_law 901 = .ok (.iaload, 1) := by decide +kernel
theorem dL_law_902 : decode cL_law 902 = .ok (.invokevirtual 103, 3) := by decide +kernel
theorem dL_law_905 : decode cL_law 905 = .ok (.aload_n 2, 1) := by decide +kernel
theorem dL_law_906 : decode cL_law 906 = .ok (.aload_n 0, 1) := by decide +kernel
theorem dL_law_907 : decode cL_law 907 = .ok (.iload_n 3, 1) := by decide +kernel
theorem dL_law_908 : decode cL_law 908 = .ok (.iconst 1, 1) := by decide +kernel
theorem dL_law_909 : decode cL_law 909 = .ok (.iadd, 1) := by decide +kernel
theorem dL_law_910 : decode cL_law 910 = .ok (.iaload, 1) := by decide +kernel
theorem dL_law_911 : decode cL_law 911 = .ok (.aload_n 0, 1) := by decide +kernel
theorem dL_law_912 : decode cL_law 912 = .ok (.iload_n 3, 1) := by decide +kernel
theorem dL_law_913 : decode cL_law 913 = .ok (.iconst 2, 1) := by decide +kernel
theorem dL_law_914 : decode cL_law 914 = .ok (.iadd, 1) := by decide +kernel
theorem dL_law_915 : decode cL_law 915 = .ok (.iaload, 1) := by decide +kernel
theorem dL_law_916 : decode cL_law 916 = .ok (.invokevirtual 106, 3) := by decide +kernel
theorem dL_law_919 : decode cL_law 919 = .ok (.if_icmp .eq 80, 3) := by decide +kernel
theorem dL_law_922 : decode cL_law 922 = .ok (.iconst 0, 1) := by decide +kernel
theorem dL_law_923 : decode cL_law 923 = .ok (.ireturn, 1) := by decide +kernel
theorem dL_law_924 : decode cL_law 924 = .ok (.aload_n 1, 1) := by decide +kernel
theorem dL_law_925 : decode cL_law 925 = .ok (.aload_n 0, 1) := by decide +kernel
theorem dL_law_926 : decode cL_law 926 = .ok (.iload_n 3, 1) := by decide +kernel
theorem dL_law_927 : decode cL_law 927 = .ok (.iconst 1, 1) := by decide +kernel
theorem dL_law_928 : decode cL_law 928 = .ok (.iadd, 1) := by decide +kernel
theorem dL_law_929 : decode cL_law 929 = .ok (.iaload, 1) := by decide +kernel
theorem dL_law_930 : decode cL_law 930 = .ok (.aload_n 0, 1) := by decide +kernel
theorem dL_law_931 : decode cL_law 931 = .ok (.iload_n 3, 1) := by decide +kernel
theorem dL_law_932 : decode cL_law 932 = .ok (.iconst 2, 1) := by decide +kernel
theorem dL_law_933 : decode cL_law 933 = .ok (.iadd, 1) := by decide +kernel
theorem dL_law_934 : decode cL_law 934 = .ok (.iaload, 1) := by decide +kernel
theorem dL_law_935 : decode cL_law 935 = .ok (.ifCond .eq 7, 3) := by decide +kernel
theorem dL_law_938 : decode cL_law 938 = .ok (.iconst 1, 1) := by decide +kernel
theorem dL_law_939 : decode cL_law 939 = .ok (.goto 4, 3) := by decide +kernel
theorem dL_law_942 : decode cL_law 942 = .ok (.iconst 0, 1) := by decide +kernel
theorem dL_law_943 : decode cL_law 943 = .ok (.invokevirtual 107, 3) := by decide +kernel
theorem dL_law_946 : decode cL_law 946 = .ok (.aload_n 2, 1) := by decide +kernel
theorem dL_law_947 : decode cL_law 947 = .ok (.aload_n 0, 1) := by decide +kernel
theorem dL_law_948 : decode cL_law 948 = .ok (.iload_n 3, 1) := by decide +kernel
theorem dL_law_949 : decode cL_law 949 = .ok (.iconst 1, 1) := by decide +kernel
theorem dL_law_950 : decode cL_law 950 = .ok (.iadd, 1) := by decide +kernel
theorem dL_law_951 : decode cL_law 951 = .ok (.iaload, 1) := by decide +kernel
theorem dL_law_952 : decode cL_law 952 = .ok (.aload_n 0, 1) := by decide +kernel
theorem dL_law_953 : decode cL_law 953 = .ok (.iload_n 3, 1) := by decide +kernel
theorem dL_law_954 : decode cL_law 954 = .ok (.iconst 2, 1) := by decide +kernel
theorem dL_law_955 : decode cL_law 955 = .ok (.iadd, 1) := by decide +kernel
theorem dL_law_956 : decode cL_law 956 = .ok (.iaload, 1) := by decide +kernel
theorem dL_law_957 : decode cL_law 957 = .ok (.ifCond .eq 7, 3) := by decide +kernel
theorem dL_law_960 : decode cL_law 960 = .ok (.iconst 1, 1) := by decide +kernel
theorem dL_law_961 : decode cL_law 961 = .ok (.goto 4, 3) := by decide +kernel
theorem dL_law_964 : decode cL_law 964 = .ok (.iconst 0, 1) := by decide +kernel
theorem dL_law_965 : decode cL_law 965 = .ok (.invokevirtual 111, 3) := by decide +kernel
theorem dL_law_968 : decode cL_law 968 = .ok (.if_icmp .eq 31, 3) := by decide +kernel
theorem dL_law_971 : decode cL_law 971 = .ok (.iconst 0, 1) := by decide +kernel
theorem dL_law_972 : decode cL_law 972 = .ok (.ireturn, 1) := by decide +kernel
theorem dL_law_973 : decode cL_law 973 = .ok (.aload_n 1, 1) := by decide +kernel
theorem dL_law_974 : decode cL_law 974 = .ok (.invokevirtual 112, 3) := by decide +kernel
theorem dL_law_977 : decode cL_law 977 = .ok (.aload_n 2, 1) := by decide +kernel
theorem dL_law_978 : decode cL_law 978 = .ok (.invokevirtual 115, 3) := by decide +kernel
theorem dL_law_981 : decode cL_law 981 = .ok (.if_icmp .eq 18, 3) := by decide +kernel
theorem dL_law_984 : decode cL_law 984 = .ok (.iconst 0, 1) := by decide +kernel
theorem dL_law_985 : decode cL_law 985 = .ok (.ireturn, 1) := by decide +kernel
theorem dL_law_986 : decode cL_law 986 = .ok (.aload_n 1, 1) := by decide +kernel
theorem dL_law_987 : decode cL_law 987 = .ok (.invokevirtual 116, 3) := by decide +kernel
theorem dL_law_990 : decode cL_law 990 = .ok (.aload_n 2, 1) := by decide +kernel
theorem dL_law_991 : decode cL_law 991 = .ok (.invokevirtual 119, 3) := by decide +kernel
theorem dL_law_994 : decode cL_law 994 = .ok (.if_icmp .eq 5, 3) := by decide +kernel
theorem dL_law_997 : decode cL_law 997 = .ok (.iconst 0, 1) := by decide +kernel
theorem dL_law_998 : decode cL_law 998 = .ok (.ireturn, 1) := by decide +kernel
theorem dL_law_999 : decode cL_law 999 = .ok (.iinc 3 6, 3) := by decide +kernel
theorem dL_law_1002 : decode cL_law 1002 = .ok (.goto (-984), 3) := by decide +kernel
theorem dL_law_1005 : decode cL_law 1005 = .ok (.iconst 1, 1) := by decide +kernel
theorem dL_law_1006 : decode cL_law 1006 = .ok (.ireturn, 1) := by decide +kernel
end
section
/-! THE LIGHT MACHINE: a method's run over a small heap of numbers (I) and a shape (G), tied to the machine by W. -/
abbrev xG : Type := Nat × Nat × (Nat → Nat) × (Nat → Nat) × (Nat → Nat → Nat)
abbrev xI : Type := Nat → Nat → Int32
abbrev xM : Type := MethodName × ByteArray × Nat × Option FieldType × Nat
abbrev xC : Type := Nat × Nat × Nat × (Nat → Int32) × va_G × (Nat → ClassId)
def gN (G : xG) : Nat := G.1
def gS (G : xG) : Nat := G.2.1
def gT (G : xG) (a : Nat) : Nat := G.2.2.1 a
def gL (G : xG) (a : Nat) : Nat := G.2.2.2.1 a
def gR (G : xG) (a k : Nat) : Nat := G.2.2.2.2 a k
def xad (C : xC) (a : Nat) : Nat := if a = 1 then C.2.1 else C.1 + (a - 2)
def xr (C : xC) (a : Nat) : Value := if a = 0 then .null else .ref (xad C a)
def xv (C : xC) (v : Value) : Value := match v with
  | .ref a => xr C a
  | w => w
theorem xv_ref {C : xC} {a : Nat} (h : a ≠ 0) : xv C (.ref a) = .ref (xad C a) := by simp [xv, xr, h]
theorem xv_null {C : xC} : xv C (.ref 0) = .null := by simp [xv, xr]
theorem xr_ref {C : xC} {a : Nat} (h : a ≠ 0) : xr C a = .ref (xad C a) := by simp [xr, h]
theorem xr_null {C : xC} : xr C 0 = .null := by simp [xr]
theorem xad_of {C : xC} {a : Nat} (h : 2 ≤ a) : xad C a = C.1 + (a - 2) := by
  have h1 : a ≠ 1 := by omega
  simp [xad, h1]
theorem xv_cat (C : xC) (v : Value) : (xv C v).category = v.category := by
  cases v with
  | ref a =>
    show (xr C a).category = _
    unfold xr
    split <;> rfl
  | _ => rfl
-- which fields hold references
def xrf (c k : Nat) : Bool := match c with
  | 0 => true
  | 3 => k == 0
  | 4 => decide (k < 2)
  | 5 => decide (k < 10)
  | 6 => k == 0
  | 7 => k == 1
  | 9 => decide (k < 6)
  | 10 => decide (2 ≤ k ∧ k < 9) || decide (10 ≤ k ∧ k < 18) || decide (23 ≤ k ∧ k < 34) || decide (37 ≤ k ∧ k < 44)
  | _ => false
def xTy (c : Nat) : Nat → FieldType := match c with
  | 0 => tyX0
  | 1 => tyX1
  | 2 => tyX2
  | 3 => tyX3
  | 4 => tyX4
  | 5 => tyX5
  | 6 => tyX6
  | 7 => tyX7
  | 8 => tyX8
  | 9 => tyX9
  | _ => tyX10
-- arrays: 100 int, 101 boolean, then of references
def xAr (t : Nat) : Option FieldType := match t with
  | 100 => some .int
  | 101 => some .boolean
  | 102 => some (.object "LetterStore$Line")
  | 103 => some (.object "LetterStore$Row")
  | 104 => some (.object "LetterStore$Sheet")
  | 105 => some (.object "LetterStore$Queue")
  | _ => none
theorem xcl_cases {P : Nat → vw_C → Prop} (h0 : P 0 (RX0, TX0, 5)) (h1 : P 1 (RX1, TX1, 6)) (h2 : P 2 (RX2, TX2, 2)) (h3 : P 3 (RX3, TX3, 3)) (h4 : P 4 (RX4, TX4, 4)) (h5 : P 5 (RX5, TX5, 19)) (h6 : P 6 (RX6, TX6, 4)) (h7 : P 7 (RX7, TX7, 2)) (h8 : P 8 (RX8, TX8, 3)) (h9 : P 9 (RX9, TX9, 8)) (h10 : P 10 (RX10, TX10, 45)) : ∀ (c : Nat) (q : vw_C), vwCl[c]? = some q → P c q := by
  intro c q h
  match c, h with
  | 0, h => cases h; exact h0
  | 1, h => cases h; exact h1
  | 2, h => cases h; exact h2
  | 3, h => cases h; exact h3
  | 4, h => cases h; exact h4
  | 5, h => cases h; exact h5
  | 6, h => cases h; exact h6
  | 7, h => cases h; exact h7
  | 8, h => cases h; exact h8
  | 9, h => cases h; exact h9
  | 10, h => cases h; exact h10
  | n + 11, h => simp [vwCl] at h
theorem xcl_lt {c : Nat} {q : vw_C} (h : vwCl[c]? = some q) : c < 100 := by
  have := (List.getElem?_eq_some_iff.mp h).1
  have h2 : vwCl.length = 11 := rfl
  omega
theorem xTy_ok : ∀ (c : Nat) (q : vw_C), vwCl[c]? = some q → ∀ k, k < q.2.2 → parseFieldDescriptor (q.2.1 k).2.2.1 = some (xTy c k) :=
  xcl_cases tyX0_ok tyX1_ok tyX2_ok tyX3_ok tyX4_ok tyX5_ok tyX6_ok tyX7_ok tyX8_ok tyX9_ok tyX10_ok
theorem xNm_ok : ∀ (c : Nat) (q : vw_C), vwCl[c]? = some q → ∀ a, a < q.2.2 → ∀ b, b < q.2.2 → a ≠ b → (q.2.1 a).2.1 ≠ (q.2.1 b).2.1 :=
  xcl_cases nmX0 nmX1 nmX2 nmX3 nmX4 nmX5 nmX6 nmX7 nmX8 nmX9 nmX10
/-- the words of the tables that every call keeps -/
def xtbl : List Cond := lw_tbl.filter goodWord
theorem xIn_0 : ∀ w ∈ u_ws RX0 TX0 5, w ∈ xtbl := by decide +kernel
theorem xIn_1 : ∀ w ∈ u_ws RX1 TX1 6, w ∈ xtbl := by decide +kernel
theorem xIn_2 : ∀ w ∈ u_ws RX2 TX2 2, w ∈ xtbl := by decide +kernel
theorem xIn_3 : ∀ w ∈ u_ws RX3 TX3 3, w ∈ xtbl := by decide +kernel
theorem xIn_4 : ∀ w ∈ u_ws RX4 TX4 4, w ∈ xtbl := by decide +kernel
theorem xIn_5 : ∀ w ∈ u_ws RX5 TX5 19, w ∈ xtbl := by decide +kernel
theorem xIn_6 : ∀ w ∈ u_ws RX6 TX6 4, w ∈ xtbl := by decide +kernel
theorem xIn_7 : ∀ w ∈ u_ws RX7 TX7 2, w ∈ xtbl := by decide +kernel
theorem xIn_8 : ∀ w ∈ u_ws RX8 TX8 3, w ∈ xtbl := by decide +kernel
theorem xIn_9 : ∀ w ∈ u_ws RX9 TX9 8, w ∈ xtbl := by decide +kernel
theorem xIn_10 : ∀ w ∈ u_ws RX10 TX10 45, w ∈ xtbl := by decide +kernel
theorem xIn_ok : ∀ (c : Nat) (q : vw_C), vwCl[c]? = some q → ∀ w ∈ u_ws q.1 q.2.1 q.2.2, w ∈ xtbl :=
  xcl_cases xIn_0 xIn_1 xIn_2 xIn_3 xIn_4 xIn_5 xIn_6 xIn_7 xIn_8 xIn_9 xIn_10
theorem xDf_ok : ∀ (c : Nat) (q : vw_C), vwCl[c]? = some q → ∀ k, k < q.2.2 → defaultValue (xTy c k) = if xrf c k = true then .null else .int 0 :=
  xcl_cases (by decide) (by decide) (by decide) (by decide) (by decide) (by decide) (by decide) (by decide) (by decide) (by decide) (by decide)
def xRefTy (t : FieldType) : Bool := match t with
  | .object _ => true
  | .array _ => true
  | _ => false
theorem xRf_ok : ∀ (c : Nat) (q : vw_C), vwCl[c]? = some q → ∀ k, k < q.2.2 → xrf c k = true → xRefTy (xTy c k) = true :=
  xcl_cases (by decide) (by decide) (by decide) (by decide) (by decide) (by decide) (by decide) (by decide) (by decide) (by decide) (by decide)
theorem xRef_fit {t : FieldType} (h : xRefTy t = true) {v : Value} (hv : v = .null ∨ ∃ a, v = .ref a) : narrow t v = v ∧ fits t v = true := by
  cases t <;> first | (simp [xRefTy] at h; done) | (rcases hv with rfl | ⟨a, rfl⟩ <;> exact ⟨rfl, rfl⟩)
theorem xGood : ∀ w ∈ xtbl, (w.onTables && w.keeps) = true ∨ ∃ ty, w = .arrayClass ty := fun w h => good_of_word (List.mem_filter.mp h).2
/-! ===== the heap ===== -/
def xfv (C : xC) (G : xG) (I : xI) (a k : Nat) : Value := if xrf (gT G a) k = true then xr C (gR G a k) else .int (I a k)
def xev (C : xC) (G : xG) (I : xI) (a j : Nat) : Value := if gT G a < 102 then .int (I a j) else xr C (gR G a j)
def xcell (C : xC) (G : xG) (I : xI) (H : Heap) (a : Nat) : Prop :=
  (∀ q : vw_C, vwCl[gT G a]? = some q → t_OB (xad C a) (C.2.2.2.2.1.1 (gT G a)) q.2.2 (C.2.2.2.2.1.2 (gT G a)) H (xfv C G I a)) ∧
  (100 ≤ gT G a → H[xad C a]? = some (arrV (C.2.2.2.2.2 (gT G a)) (gL G a) (xev C G I a)))
def xNo : List (String × String) := [("LetterStore$Line", "LetterStore$Sure"), ("LetterStore$Line", "LetterStore$Held"), ("LetterStore$Sure", "LetterStore$Held")]
def xYes : List (String × String) := [("LetterStore$Held", "LetterStore$Line"), ("LetterStore$Held", "LetterStore$Sure"), ("LetterStore$Sure", "LetterStore$Line")]
def xOv : List String := ["LetterStore$Line", "LetterStore$Row", "LetterStore$Sheet", "LetterStore$Queue"]
def xNest : List (String × Nat × MethodName × String) := [("LetterStore", 51, ⟨"LetterStore$Row", "<init>", "()V"⟩, "LetterStore"), ("LetterStore$Run", 46, ⟨"LetterStore$Queue", "<init>", "()V"⟩, "LetterStore"), ("LetterStore$Setting", 30, ⟨"LetterStore", "isWithin", "(III)Z"⟩, "LetterStore")]
def xGC (C : xC) (s : State) : Prop :=
  (∀ (c : Nat) (q : vw_C), vwCl[c]? = some q → u_Kn s q.1 q.2.1 q.2.2 (C.2.2.2.2.1.1 c) (C.2.2.2.2.1.2 c)) ∧
  (∀ (t : Nat) (ty : FieldType), xAr t = some ty → ArrOfT s (C.2.2.2.2.2 t) ty ∧ va_RA s (C.2.2.2.2.2 t) ty) ∧
  (∀ q ∈ xNo, va_Nc q.1 q.2 s) ∧ (∀ q ∈ xYes, va_Nw (.castable q.1 q.2) s) ∧ (∀ n ∈ xOv, va_AO n s) ∧ (∀ q ∈ xNest, va_Nw (.methodLinkNest q.1 q.2.1 q.2.2.1 q.2.2.2) s)
theorem xGC.moved {C : xC} {s t : State} (hW : s.WarmedH t.vm) (h : xGC C s) : xGC C t :=
  ⟨fun c q hq => u_Kn_moved hW.alike (h.1 c q hq), fun k ty hk => ⟨arrOfT_moved hW.alike (h.2.1 k ty hk).1, (h.2.1 k ty hk).2.moved hW.alike⟩, fun q hq => (h.2.2.1 q hq).moved hW.alike, fun q hq => (h.2.2.2.1 q hq).warmC hW, fun n hn => (h.2.2.2.2.1 n hn).moved hW.alike, fun q hq => (h.2.2.2.2.2 q hq).warmM hW⟩
theorem xGC.same {C : xC} {s t : State} (hW : s.vm = t.vm) (h : xGC C s) : xGC C t :=
  have ha : s.vm.Alike t.vm := hW ▸ Vm.Alike.refl s.vm
  ⟨fun c q hq => u_Kn_moved ha (h.1 c q hq), fun k ty hk => ⟨arrOfT_moved ha (h.2.1 k ty hk).1, (h.2.1 k ty hk).2.moved ha⟩, fun q hq => (h.2.2.1 q hq).moved ha, fun q hq => (h.2.2.2.1 q hq).same rfl hW, fun n hn => (h.2.2.2.2.1 n hn).moved ha, fun q hq => (h.2.2.2.2.2 q hq).same rfl hW⟩
def xH (C : xC) (s : State) (G : xG) (I : xI) (H : Heap) : Prop :=
  xGC C s ∧ va_X C.2.1 C.2.2.1 C.2.2.2.1 s H ∧ C.2.1 < C.1 ∧ 2 ≤ gN G ∧ H.size + 2 = C.1 + gN G ∧ ∀ a, 2 ≤ a → a < gN G → xcell C G I H a
theorem xH.moved {C : xC} {s t : State} {G : xG} {I : xI} {H : Heap} (hW : s.WarmedH t.vm) (h : xH C s G I H) : xH C t G I H :=
  ⟨h.1.moved hW, h.2.1.moved hW.alike, h.2.2⟩
theorem xH.same {C : xC} {s t : State} {G : xG} {I : xI} {H : Heap} (hW : s.vm = t.vm) (h : xH C s G I H) : xH C t G I H :=
  ⟨h.1.same hW, h.2.1.moved (hW ▸ Vm.Alike.refl s.vm), h.2.2⟩
/-- an object of class c at a; an array of kind t and n places at a -/
def gO (G : xG) (a c : Nat) : Prop := 2 ≤ a ∧ a < gN G ∧ gT G a = c
def gA (G : xG) (a t n : Nat) : Prop := 2 ≤ a ∧ a < gN G ∧ gT G a = t ∧ gL G a = n
theorem xH.obj {C : xC} {s : State} {G : xG} {I : xI} {H : Heap} (h : xH C s G I H) {a c : Nat} (ha : gO G a c) {q : vw_C} (hc : vwCl[c]? = some q) : t_OB (xad C a) (C.2.2.2.2.1.1 c) q.2.2 (C.2.2.2.2.1.2 c) H (xfv C G I a) := by
  obtain ⟨h1, h2, rfl⟩ := ha
  exact (h.2.2.2.2.2 a h1 h2).1 q hc
theorem xH.arr {C : xC} {s : State} {G : xG} {I : xI} {H : Heap} (h : xH C s G I H) {a t n : Nat} (ha : gA G a t n) (ht : 100 ≤ t) : H[xad C a]? = some (arrV (C.2.2.2.2.2 t) n (xev C G I a)) := by
  obtain ⟨h1, h2, rfl, rfl⟩ := ha
  exact (h.2.2.2.2.2 a h1 h2).2 ht
/-! ===== writes ===== -/
def wI (I : xI) (a k : Nat) (v : Int32) : xI := fun b => if b = a then upd (I a) k v else I b
def wR (G : xG) (a k b : Nat) : xG := (G.1, G.2.1, G.2.2.1, G.2.2.2.1, fun x => if x = a then (fun j => if j = k then b else gR G a j) else gR G x)
def aO (G : xG) (c n : Nat) : xG := (gN G + 1, gS G + n, (fun x => if x = gN G then c else gT G x), gL G, fun x => if x = gN G then (fun _ => 0) else gR G x)
def aA (G : xG) (t n : Nat) : xG := (gN G + 1, gS G + n, (fun x => if x = gN G then t else gT G x), (fun x => if x = gN G then n else gL G x), fun x => if x = gN G then (fun _ => 0) else gR G x)
def wN (I : xI) (a : Nat) : xI := fun b => if b = a then (fun _ => 0) else I b
theorem wI_same (I : xI) (a k : Nat) (v : Int32) : wI I a k v a = upd (I a) k v := by simp [wI]
theorem wI_ne (I : xI) {a b : Nat} (k : Nat) (v : Int32) (h : b ≠ a) : wI I a k v b = I b := by simp [wI, h]
theorem xad_inj {C : xC} {a b : Nat} (ha : 2 ≤ a) (hb : 2 ≤ b) (h : xad C a = xad C b) : a = b := by
  rw [xad_of ha, xad_of hb] at h
  omega
/-- one cell at a has changed, all others stand -/
theorem xH.put {C : xC} {s : State} {G G1 : xG} {I I1 : xI} {H H1 : Heap} (h : xH C s G I H) {a : Nat} (ha : 2 ≤ a) (z : H1.size = H.size) (oq : ∀ q : Nat, q ≠ xad C a → H1[q]? = H[q]?) (hn : gN G1 = gN G) (hT : ∀ b, gT G1 b = gT G b) (hL : ∀ b, gL G1 b = gL G b) (hR : ∀ b, b ≠ a → gR G1 b = gR G b) (hI : ∀ b, b ≠ a → I1 b = I b) (hc : xcell C G1 I1 H1 a) : xH C s G1 I1 H1 := by
  obtain ⟨h1, h2, h3, h4, h5, h6⟩ := h
  refine ⟨h1, h2.kept (oq _ ?_), h3, by rw [hn]; exact h4, by rw [z, hn]; exact h5, fun b hb hb2 => ?_⟩
  · rw [xad_of ha]; omega
  · rw [hn] at hb2
    by_cases hba : b = a
    · subst hba; exact hc
    · have hne : xad C b ≠ xad C a := fun e => hba (xad_inj hb ha e)
      obtain ⟨g1, g2⟩ := h6 b hb hb2
      have ef : xfv C G1 I1 b = xfv C G I b := by funext k; simp [xfv, hT, hR b hba, hI b hba]
      have ee : xev C G1 I1 b = xev C G I b := by funext k; simp [xev, hT, hR b hba, hI b hba]
      refine ⟨fun q hq => ?_, fun hq => ?_⟩
      · rw [hT] at hq ⊢
        rw [ef]
        exact (g1 q hq).kept (oq _ hne)
      · rw [hT] at hq ⊢
        rw [ee, hL, oq _ hne]
        exact g2 hq
/-- a new cell stands at the end -/
theorem xH.grow {C : xC} {s : State} {G G1 : xG} {I I1 : xI} {H H1 : Heap} (h : xH C s G I H) (z : H1.size = H.size + 1) (oq : ∀ q : Nat, q < H.size → H1[q]? = H[q]?) (hn : gN G1 = gN G + 1) (hT : ∀ b, b ≠ gN G → gT G1 b = gT G b) (hL : ∀ b, b ≠ gN G → gL G1 b = gL G b) (hR : ∀ b, b ≠ gN G → gR G1 b = gR G b) (hI : ∀ b, b ≠ gN G → I1 b = I b) (hc : xcell C G1 I1 H1 (gN G)) : xH C s G1 I1 H1 := by
  obtain ⟨h1, h2, h3, h4, h5, h6⟩ := h
  refine ⟨h1, h2.kept (oq _ ?_), h3, by omega, by omega, fun b hb hb2 => ?_⟩
  · omega
  · by_cases hba : b = gN G
    · subst hba; exact hc
    · obtain ⟨g1, g2⟩ := h6 b hb (by omega)
      have hlt : xad C b < H.size := by rw [xad_of hb]; omega
      have ef : xfv C G1 I1 b = xfv C G I b := by funext k; simp [xfv, hT b hba, hR b hba, hI b hba]
      have ee : xev C G1 I1 b = xev C G I b := by funext k; simp [xev, hT b hba, hR b hba, hI b hba]
      refine ⟨fun q hq => ?_, fun hq => ?_⟩
      · rw [hT b hba] at hq ⊢
        rw [ef]
        exact (g1 q hq).kept (oq _ hlt)
      · rw [hT b hba] at hq ⊢
        rw [ee, hL b hba, oq _ hlt]
        exact g2 hq
theorem xH.end {C : xC} {s : State} {G : xG} {I : xI} {H : Heap} (h : xH C s G I H) : xad C (gN G) = H.size := by
  obtain ⟨h1, h2, h3, h4, h5, h6⟩ := h
  rw [xad_of h4]; omega
/-! ===== locals ===== -/
def xlv (C : xC) (ls : List (Option Value)) : List (Nat × Value) := (List.range ls.length).filterMap fun k => (ls.getD k none).map fun v => (k, xv C v)
def xls (C : xC) (n : Nat) (ls : List (Option Value)) (la : Array Slot) : Prop := lv_has la n (xlv C ls) ∧ ls.length = n ∧ ∀ v, some v ∈ ls → v.category = 1
theorem xlv_mem {C : xC} {ls : List (Option Value)} {k : Nat} {v : Value} (h : ls[k]? = some (some v)) : (k, xv C v) ∈ xlv C ls := by
  have hk := (List.getElem?_eq_some_iff.mp h).1
  refine List.mem_filterMap.mpr ⟨k, List.mem_range.mpr hk, ?_⟩
  simp [List.getD, h]
theorem xlv_of {C : xC} {ls : List (Option Value)} {q : Nat × Value} (h : q ∈ xlv C ls) : ∃ v, ls[q.1]? = some (some v) ∧ q.2 = xv C v := by
  obtain ⟨k, hk, hq⟩ := List.mem_filterMap.mp h
  have hk := List.mem_range.mp hk
  cases hv : ls[k]? with
  | none => simp [List.getD, hv] at hq
  | some o =>
    cases o with
    | none => simp [List.getD, hv] at hq
    | some v =>
      simp [List.getD, hv] at hq
      subst hq
      exact ⟨v, hv, rfl⟩
theorem xls.at {C : xC} {n : Nat} {ls : List (Option Value)} {la : Array Slot} (h : xls C n ls la) {k : Nat} {v : Value} (hk : ls[k]? = some (some v)) : la[k]? = some (.val (xv C v)) := h.1.2.2 _ (xlv_mem hk)
theorem xls.set {C : xC} {n : Nat} {ls : List (Option Value)} {la la' : Array Slot} (h : xls C n ls la) {i : Nat} {v : Value} (hc : v.category = 1) (h' : lv_has la' n ((i, xv C v) :: (xlv C ls).filter (fun q => !(q.1 == i) && !(q.1 + 1 == i && q.2.category == 2)))) : xls C n (ls.set i (some v)) la' := by
  obtain ⟨h1, h2, h3⟩ := h
  refine ⟨⟨h'.1, h'.2.1, fun q hq => ?_⟩, by simp [h2], fun w hw => ?_⟩
  · obtain ⟨w, hw, e⟩ := xlv_of hq
    by_cases hi : q.1 = i
    · have hlt : i < ls.length := by
        have := (List.getElem?_eq_some_iff.mp hw).1
        simp at this; omega
      rw [hi, List.getElem?_set_self hlt] at hw
      cases hw
      have := h'.2.2 (i, xv C v) List.mem_cons_self
      rw [hi, e]; exact this
    · rw [List.getElem?_set_ne (fun z => hi z.symm)] at hw
      refine h'.2.2 q (List.mem_cons_of_mem _ (List.mem_filter.mpr ⟨?_, ?_⟩))
      · have := xlv_mem (C := C) hw
        rw [← e] at this; exact this
      · have hcat : q.2.category = 1 := by rw [e, xv_cat]; exact h3 w (List.mem_of_getElem? hw)
        simp [hi, hcat]
  · rcases List.mem_or_eq_of_mem_set hw with z | z
    · exact h3 w z
    · cases z; exact hc
/-- fewer locals known -/
theorem xls.less {C : xC} {n : Nat} {ls ls2 : List (Option Value)} {la : Array Slot} (h : xls C n ls la) (hl : ls2.length = ls.length) (hs : ∀ (k : Nat) (v : Value), ls2[k]? = some (some v) → ls[k]? = some (some v)) : xls C n ls2 la := by
  obtain ⟨h1, h2, h3⟩ := h
  refine ⟨⟨h1.1, h1.2.1, fun q hq => ?_⟩, by omega, fun v hv => ?_⟩
  · obtain ⟨w, hw, e⟩ := xlv_of hq
    have := h1.2.2 _ (xlv_mem (C := C) (hs _ _ hw))
    rw [e]; exact this
  · obtain ⟨k, hk⟩ := List.getElem?_of_mem hv
    exact h3 v (List.mem_of_getElem? (hs k v hk))
/-! ===== the judgement ===== -/
def xK (M : xM) (p : Program) (s : State) (m : MethodId) (args : Array Value) (meth : Method) (c : Code) (R : Room) : Prop :=
  p.tables.exec = Jvm.exec ∧ c.code = M.2.1 ∧ meth.sig.returnType = M.2.2.2.1 ∧ c.maxLocals = M.2.2.1 ∧ s.vm.findClass M.1.cls = some m.cls ∧ (∀ w ∈ xtbl, w.before args s = true) ∧ meth.locks = false ∧ (M.1.name = "<init>" → meth.name = "<init>") ∧ M.2.2.2.2 ≤ R.frames ∧ 37 * M.2.2.2.2 ≤ R.locals
def xQc (C : xC) (r : Option Value) (G' : xG) (I' : xI) : Array Value → State → Outcome → State → Prop := fun _ _ o t => o = .returned (r.map (xv C)) ∧ xH C t G' I' t.heap
def XW (l : Launch) (C : xC) (M : xM) (pc : Nat) (ls : List (Option Value)) (st : List Value) (G : xG) (I : xI) (r : Option Value) (G' : xG) (I' : xI) : Prop :=
  ∀ (p : Program) (e : Env) (s : State) (m : MethodId) (args : Array Value) (below : List Frame) (meth : Method) (c : Code) (R : Room) (n0 s0 : Nat) (H : Heap) (locs : List Loc) (la : Array Slot),
    xK M p s m args meth c R → xH C s G I H → xls C M.2.2.1 ls la → (n0 ≤ gN G ∧ s0 ≤ gS G ∧ gN G' - n0 ≤ R.cells ∧ gS G' - s0 ≤ R.slots ∧ ∀ q ∈ locs, C.1 ≤ q.base) →
    W p l e R s m args below meth c H locs (gN G - n0) (gS G - s0) (MQ below (xQc C r G' I') args s R.cells R.slots (fun q => C.1 ≤ q)) (F0 m pc la (st.map (xv C)))
def xd (c : ByteArray) (pc : Nat) (i : Instr) (n nx : Nat) : Prop := decode c pc = .ok (i, n) ∧ pc + n = nx
def xj (c : ByteArray) (pc : Nat) (i : Instr) (n nx : Nat) (off : Int) (tgt : Nat) : Prop := decode c pc = .ok (i, n) ∧ pc + n = nx ∧ (pc : Int) + off = (tgt : Int)
section XROWS
variable {l : Launch} {C : xC} {M : xM} {pc nx : Nat} {ls ls' : List (Option Value)} {st : List Value} {G G' : xG} {I I' : xI} {r : Option Value}
theorem XW.less {ls2 : List (Option Value)} (kk : XW l C M pc ls2 st G I r G' I') (hl : ls2.length = ls.length) (hs : ∀ (k : Nat) (v : Value), ls2[k]? = some (some v) → ls[k]? = some (some v)) : XW l C M pc ls st G I r G' I' :=
  fun p e s m args below meth c R n0 s0 H locs la K hH hls hB => kk p e s m args below meth c R n0 s0 H locs la K hH (hls.less hl hs) hB
theorem XW.iadd {x y : Int32} (hd : xd M.2.1 pc .iadd 1 nx) (kk : XW l C M nx ls (.int (x + y) :: st) G I r G' I') : XW l C M pc ls (.int y :: .int x :: st) G I r G' I' := by
  obtain ⟨hd, rfl⟩ := hd
  intro p e s m args below meth c R n0 s0 H locs la K hH hls hB
  exact lv_iadd K.1 K.2.1 hd (kk p e s m args below meth c R n0 s0 H locs la K hH hls hB)
theorem XW.isub {x y : Int32} (hd : xd M.2.1 pc .isub 1 nx) (kk : XW l C M nx ls (.int (x - y) :: st) G I r G' I') : XW l C M pc ls (.int y :: .int x :: st) G I r G' I' := by
  obtain ⟨hd, rfl⟩ := hd
  intro p e s m args below meth c R n0 s0 H locs la K hH hls hB
  exact lv_isub K.1 K.2.1 hd (kk p e s m args below meth c R n0 s0 H locs la K hH hls hB)
theorem XW.imul {x y : Int32} (hd : xd M.2.1 pc .imul 1 nx) (kk : XW l C M nx ls (.int (x * y) :: st) G I r G' I') : XW l C M pc ls (.int y :: .int x :: st) G I r G' I' := by
  obtain ⟨hd, rfl⟩ := hd
  intro p e s m args below meth c R n0 s0 H locs la K hH hls hB
  exact lv_imul K.1 K.2.1 hd (kk p e s m args below meth c R n0 s0 H locs la K hH hls hB)
theorem XW.iand {x y : Int32} (hd : xd M.2.1 pc .iand 1 nx) (kk : XW l C M nx ls (.int (x &&& y) :: st) G I r G' I') : XW l C M pc ls (.int y :: .int x :: st) G I r G' I' := by
  obtain ⟨hd, rfl⟩ := hd
  intro p e s m args below meth c R n0 s0 H locs la K hH hls hB
  exact lv_iand K.1 K.2.1 hd (kk p e s m args below meth c R n0 s0 H locs la K hH hls hB)
theorem XW.ior {x y : Int32} (hd : xd M.2.1 pc .ior 1 nx) (kk : XW l C M nx ls (.int (x ||| y) :: st) G I r G' I') : XW l C M pc ls (.int y :: .int x :: st) G I r G' I' := by
  obtain ⟨hd, rfl⟩ := hd
  intro p e s m args below meth c R n0 s0 H locs la K hH hls hB
  exact lv_ior K.1 K.2.1 hd (kk p e s m args below meth c R n0 s0 H locs la K hH hls hB)
theorem XW.ishl {x y : Int32} (hd : xd M.2.1 pc .ishl 1 nx) (kk : XW l C M nx ls (.int (x <<< (y &&& 31)) :: st) G I r G' I') : XW l C M pc ls (.int y :: .int x :: st) G I r G' I' := by
  obtain ⟨hd, rfl⟩ := hd
  intro p e s m args below meth c R n0 s0 H locs la K hH hls hB
  exact lv_ishl K.1 K.2.1 hd (kk p e s m args below meth c R n0 s0 H locs la K hH hls hB)
theorem XW.ishr {x y : Int32} (hd : xd M.2.1 pc .ishr 1 nx) (kk : XW l C M nx ls (.int (x >>> (y &&& 31)) :: st) G I r G' I') : XW l C M pc ls (.int y :: .int x :: st) G I r G' I' := by
  obtain ⟨hd, rfl⟩ := hd
  intro p e s m args below meth c R n0 s0 H locs la K hH hls hB
  exact lv_ishr K.1 K.2.1 hd (kk p e s m args below meth c R n0 s0 H locs la K hH hls hB)
theorem XW.idiv {x y : Int32} (hd : xd M.2.1 pc .idiv 1 nx) (hne : ¬ y = 0) (kk : XW l C M nx ls (.int (x / y) :: st) G I r G' I') : XW l C M pc ls (.int y :: .int x :: st) G I r G' I' := by
  obtain ⟨hd, rfl⟩ := hd
  intro p e s m args below meth c R n0 s0 H locs la K hH hls hB
  exact lv_idiv K.1 K.2.1 hd hne (kk p e s m args below meth c R n0 s0 H locs la K hH hls hB)
theorem XW.irem {x y : Int32} (hd : xd M.2.1 pc .irem 1 nx) (hne : ¬ y = 0) (kk : XW l C M nx ls (.int (x - x / y * y) :: st) G I r G' I') : XW l C M pc ls (.int y :: .int x :: st) G I r G' I' := by
  obtain ⟨hd, rfl⟩ := hd
  intro p e s m args below meth c R n0 s0 H locs la K hH hls hB
  exact lv_irem K.1 K.2.1 hd hne (kk p e s m args below meth c R n0 s0 H locs la K hH hls hB)
theorem XW.i2b {x : Int32} (hd : xd M.2.1 pc .i2b 1 nx) (kk : XW l C M nx ls (.int x.toInt8.toInt32 :: st) G I r G' I') : XW l C M pc ls (.int x :: st) G I r G' I' := by
  obtain ⟨hd, rfl⟩ := hd
  intro p e s m args below meth c R n0 s0 H locs la K hH hls hB
  exact lv_i2b K.1 K.2.1 hd rfl (kk p e s m args below meth c R n0 s0 H locs la K hH hls hB)
theorem XW.i2s {x : Int32} (hd : xd M.2.1 pc .i2s 1 nx) (kk : XW l C M nx ls (.int x.toInt16.toInt32 :: st) G I r G' I') : XW l C M pc ls (.int x :: st) G I r G' I' := by
  obtain ⟨hd, rfl⟩ := hd
  intro p e s m args below meth c R n0 s0 H locs la K hH hls hB
  exact lv_i2s K.1 K.2.1 hd rfl (kk p e s m args below meth c R n0 s0 H locs la K hH hls hB)
theorem XW.i2l {x : Int32} (hd : xd M.2.1 pc .i2l 1 nx) (kk : XW l C M nx ls (.long x.toInt64 :: st) G I r G' I') : XW l C M pc ls (.int x :: st) G I r G' I' := by
  obtain ⟨hd, rfl⟩ := hd
  intro p e s m args below meth c R n0 s0 H locs la K hH hls hB
  exact lv_i2l K.1 K.2.1 hd rfl (kk p e s m args below meth c R n0 s0 H locs la K hH hls hB)
theorem XW.ladd {x y : Int64} (hd : xd M.2.1 pc .ladd 1 nx) (kk : XW l C M nx ls (.long (x + y) :: st) G I r G' I') : XW l C M pc ls (.long y :: .long x :: st) G I r G' I' := by
  obtain ⟨hd, rfl⟩ := hd
  intro p e s m args below meth c R n0 s0 H locs la K hH hls hB
  exact lv_ladd K.1 K.2.1 hd (kk p e s m args below meth c R n0 s0 H locs la K hH hls hB)
theorem XW.lcmp {x y : Int64} (hd : xd M.2.1 pc .lcmp 1 nx) (kk : XW l C M nx ls (.int (lg_cmp x y) :: st) G I r G' I') : XW l C M pc ls (.long y :: .long x :: st) G I r G' I' := by
  obtain ⟨hd, rfl⟩ := hd
  intro p e s m args below meth c R n0 s0 H locs la K hH hls hB
  exact W.lcmp K.1 K.2.1 hd (kk p e s m args below meth c R n0 s0 H locs la K hH hls hB)
theorem XW.iconst {n : Int} {v : Int32} (hd : xd M.2.1 pc (.iconst n) 1 nx) (hv : Int32.ofInt n = v) (kk : XW l C M nx ls (.int v :: st) G I r G' I') : XW l C M pc ls (st) G I r G' I' := by
  obtain ⟨hd, rfl⟩ := hd
  intro p e s m args below meth c R n0 s0 H locs la K hH hls hB
  exact lv_iconst K.1 K.2.1 hd hv (kk p e s m args below meth c R n0 s0 H locs la K hH hls hB)
theorem XW.bipush {n : Int} {v : Int32} (hd : xd M.2.1 pc (.bipush n) 2 nx) (hv : (Int8.ofInt n).toInt32 = v) (kk : XW l C M nx ls (.int v :: st) G I r G' I') : XW l C M pc ls (st) G I r G' I' := by
  obtain ⟨hd, rfl⟩ := hd
  intro p e s m args below meth c R n0 s0 H locs la K hH hls hB
  exact lv_bipush K.1 K.2.1 hd hv (kk p e s m args below meth c R n0 s0 H locs la K hH hls hB)
theorem XW.sipush {n : Int} {v : Int32} (hd : xd M.2.1 pc (.sipush n) 3 nx) (hv : (Int16.ofInt n).toInt32 = v) (kk : XW l C M nx ls (.int v :: st) G I r G' I') : XW l C M pc ls (st) G I r G' I' := by
  obtain ⟨hd, rfl⟩ := hd
  intro p e s m args below meth c R n0 s0 H locs la K hH hls hB
  exact lv_sipush K.1 K.2.1 hd hv (kk p e s m args below meth c R n0 s0 H locs la K hH hls hB)
theorem XW.anull (hd : xd M.2.1 pc .aconst_null 1 nx) (kk : XW l C M nx ls (.ref 0 :: st) G I r G' I') : XW l C M pc ls st G I r G' I' := by
  obtain ⟨hd, rfl⟩ := hd
  intro p e s m args below meth c R n0 s0 H locs la K hH hls hB
  exact lv_null K.1 K.2.1 hd (kk p e s m args below meth c R n0 s0 H locs la K hH hls hB)
theorem XW.dup {v : Value} (hd : xd M.2.1 pc .dup 1 nx) (hv : v.category = 1) (kk : XW l C M nx ls (v :: v :: st) G I r G' I') : XW l C M pc ls (v :: st) G I r G' I' := by
  obtain ⟨hd, rfl⟩ := hd
  intro p e s m args below meth c R n0 s0 H locs la K hH hls hB
  exact lv_dup K.1 K.2.1 hd ((xv_cat C v).trans hv) (kk p e s m args below meth c R n0 s0 H locs la K hH hls hB)
theorem XW.dup2 {v w : Value} (hd : xd M.2.1 pc .dup2 1 nx) (hv : v.category = 1) (hw : w.category = 1) (kk : XW l C M nx ls (v :: w :: v :: w :: st) G I r G' I') : XW l C M pc ls (v :: w :: st) G I r G' I' := by
  obtain ⟨hd, rfl⟩ := hd
  intro p e s m args below meth c R n0 s0 H locs la K hH hls hB
  exact lv_dup2_11 K.1 K.2.1 hd ((xv_cat C v).trans hv) ((xv_cat C w).trans hw) (kk p e s m args below meth c R n0 s0 H locs la K hH hls hB)
theorem XW.iload_n {k : Fin 4} {x : Int32} (hd : xd M.2.1 pc (.iload_n k) 1 nx) (hv : ls[(k : Nat)]? = some (some (.int x))) (kk : XW l C M nx ls (.int x :: st) G I r G' I') : XW l C M pc ls st G I r G' I' := by
  obtain ⟨hd, rfl⟩ := hd
  intro p e s m args below meth c R n0 s0 H locs la K hH hls hB
  exact lv_iload_n K.1 K.2.1 hd rfl (hls.at hv) (kk p e s m args below meth c R n0 s0 H locs la K hH hls hB)
theorem XW.iload {k : Nat} {x : Int32} (hd : xd M.2.1 pc (.iload k) 2 nx) (hv : ls[k]? = some (some (.int x))) (kk : XW l C M nx ls (.int x :: st) G I r G' I') : XW l C M pc ls st G I r G' I' := by
  obtain ⟨hd, rfl⟩ := hd
  intro p e s m args below meth c R n0 s0 H locs la K hH hls hB
  exact lv_iload K.1 K.2.1 hd (hls.at hv) (kk p e s m args below meth c R n0 s0 H locs la K hH hls hB)
theorem XW.aload_n {k : Fin 4} {a : Nat} (hd : xd M.2.1 pc (.aload_n k) 1 nx) (hv : ls[(k : Nat)]? = some (some (.ref a))) (kk : XW l C M nx ls (.ref a :: st) G I r G' I') : XW l C M pc ls st G I r G' I' := by
  obtain ⟨hd, rfl⟩ := hd
  intro p e s m args below meth c R n0 s0 H locs la K hH hls hB
  have hk := kk p e s m args below meth c R n0 s0 H locs la K hH hls hB
  have hg := hls.at hv
  by_cases ha : a = 0
  · subst ha
    rw [List.map_cons, xv_null] at hk
    rw [xv_null] at hg
    exact lv_aload_nN K.1 K.2.1 hd rfl hg hk
  · rw [List.map_cons, xv_ref ha] at hk
    rw [xv_ref ha] at hg
    exact lv_aload_n K.1 K.2.1 hd rfl hg hk
theorem XW.aload {k : Nat} {a : Nat} (hd : xd M.2.1 pc (.aload k) 2 nx) (hv : ls[k]? = some (some (.ref a))) (kk : XW l C M nx ls (.ref a :: st) G I r G' I') : XW l C M pc ls st G I r G' I' := by
  obtain ⟨hd, rfl⟩ := hd
  intro p e s m args below meth c R n0 s0 H locs la K hH hls hB
  have hk := kk p e s m args below meth c R n0 s0 H locs la K hH hls hB
  have hg := hls.at hv
  by_cases ha : a = 0
  · subst ha
    rw [List.map_cons, xv_null] at hk
    rw [xv_null] at hg
    exact lv_aloadN K.1 K.2.1 hd hg hk
  · rw [List.map_cons, xv_ref ha] at hk
    rw [xv_ref ha] at hg
    exact lv_aload K.1 K.2.1 hd hg hk
theorem XW.istore_n {k : Fin 4} {x : Int32} (hd : xd M.2.1 pc (.istore_n k) 1 nx) (hk : (k : Nat) < ls.length) (hl : ls.set k (some (.int x)) = ls') (kk : XW l C M nx ls' st G I r G' I') : XW l C M pc ls (.int x :: st) G I r G' I' := by
  obtain ⟨hd, rfl⟩ := hd
  subst hl
  intro p e s m args below meth c R n0 s0 H locs la K hH hls hB
  exact lv_istore_n K.1 K.2.1 hd rfl hls.1 (by rw [← hls.2.1]; exact hk) rfl (fun la2 h2 => kk p e s m args below meth c R n0 s0 H locs la2 K hH (hls.set (v := .int x) rfl h2) hB)
theorem XW.istore {k : Nat} {x : Int32} (hd : xd M.2.1 pc (.istore k) 2 nx) (hk : k < ls.length) (hl : ls.set k (some (.int x)) = ls') (kk : XW l C M nx ls' st G I r G' I') : XW l C M pc ls (.int x :: st) G I r G' I' := by
  obtain ⟨hd, rfl⟩ := hd
  subst hl
  intro p e s m args below meth c R n0 s0 H locs la K hH hls hB
  exact lv_istore K.1 K.2.1 hd hls.1 (by rw [← hls.2.1]; exact hk) rfl (fun la2 h2 => kk p e s m args below meth c R n0 s0 H locs la2 K hH (hls.set (v := .int x) rfl h2) hB)
theorem XW.astore_n {k : Fin 4} {a : Nat} (hd : xd M.2.1 pc (.astore_n k) 1 nx) (hk : (k : Nat) < ls.length) (hl : ls.set k (some (.ref a)) = ls') (kk : XW l C M nx ls' st G I r G' I') : XW l C M pc ls (.ref a :: st) G I r G' I' := by
  obtain ⟨hd, rfl⟩ := hd
  subst hl
  intro p e s m args below meth c R n0 s0 H locs la K hH hls hB
  have hk2 : (k : Nat) < M.2.2.1 := by rw [← hls.2.1]; exact hk
  rw [List.map_cons]
  by_cases ha : a = 0
  · subst ha
    rw [xv_null]
    exact lv_astore_nN K.1 K.2.1 hd rfl hls.1 hk2 rfl (fun la2 h2 => kk p e s m args below meth c R n0 s0 H locs la2 K hH (hls.set (v := .ref 0) rfl (by rw [xv_null]; exact h2)) hB)
  · rw [xv_ref ha]
    exact lv_astore_n K.1 K.2.1 hd rfl hls.1 hk2 rfl (fun la2 h2 => kk p e s m args below meth c R n0 s0 H locs la2 K hH (hls.set (v := .ref a) rfl (by rw [xv_ref ha]; exact h2)) hB)
theorem XW.astore {k : Nat} {a : Nat} (hd : xd M.2.1 pc (.astore k) 2 nx) (hk : k < ls.length) (hl : ls.set k (some (.ref a)) = ls') (kk : XW l C M nx ls' st G I r G' I') : XW l C M pc ls (.ref a :: st) G I r G' I' := by
  obtain ⟨hd, rfl⟩ := hd
  subst hl
  intro p e s m args below meth c R n0 s0 H locs la K hH hls hB
  have hk2 : k < M.2.2.1 := by rw [← hls.2.1]; exact hk
  rw [List.map_cons]
  by_cases ha : a = 0
  · subst ha
    rw [xv_null]
    exact lv_astoreN K.1 K.2.1 hd hls.1 hk2 rfl (fun la2 h2 => kk p e s m args below meth c R n0 s0 H locs la2 K hH (hls.set (v := .ref 0) rfl (by rw [xv_null]; exact h2)) hB)
  · rw [xv_ref ha]
    exact lv_astore K.1 K.2.1 hd hls.1 hk2 rfl (fun la2 h2 => kk p e s m args below meth c R n0 s0 H locs la2 K hH (hls.set (v := .ref a) rfl (by rw [xv_ref ha]; exact h2)) hB)
theorem XW.iinc {k : Nat} {n : Int} {x y : Int32} (hd : xd M.2.1 pc (.iinc k n) 3 nx) (hv : ls[k]? = some (some (.int x))) (hy : x + Int32.ofInt n = y) (hl : ls.set k (some (.int y)) = ls') (kk : XW l C M nx ls' st G I r G' I') : XW l C M pc ls st G I r G' I' := by
  obtain ⟨hd, rfl⟩ := hd
  subst hl
  intro p e s m args below meth c R n0 s0 H locs la K hH hls hB
  have hk2 : k < M.2.2.1 := by rw [← hls.2.1]; exact (List.getElem?_eq_some_iff.mp hv).1
  obtain ⟨j, hj⟩ := List.getElem?_of_mem (xlv_mem (C := C) hv)
  exact lv_iinc K.1 K.2.1 hd hls.1 hj hy hk2 rfl (fun la2 h2 => kk p e s m args below meth c R n0 s0 H locs la2 K hH (hls.set (v := .int y) rfl h2) hB)
theorem XW.if_eq {x : Int32} {off : Int} {tgt : Nat} (hd : xj M.2.1 pc (.ifCond .eq off) 3 nx off tgt) (kt : x = 0 → XW l C M tgt ls st G I r G' I') (kf : ¬ x = 0 → XW l C M nx ls st G I r G' I') : XW l C M pc ls (.int x :: st) G I r G' I' := by
  obtain ⟨hd, rfl, ht⟩ := hd
  intro p e s m args below meth c R n0 s0 H locs la K hH hls hB
  exact lv_if_eq K.1 K.2.1 hd ht (fun z => kt z p e s m args below meth c R n0 s0 H locs la K hH hls hB) (fun z => kf z p e s m args below meth c R n0 s0 H locs la K hH hls hB)
theorem XW.if_ne {x : Int32} {off : Int} {tgt : Nat} (hd : xj M.2.1 pc (.ifCond .ne off) 3 nx off tgt) (kt : ¬ x = 0 → XW l C M tgt ls st G I r G' I') (kf : x = 0 → XW l C M nx ls st G I r G' I') : XW l C M pc ls (.int x :: st) G I r G' I' := by
  obtain ⟨hd, rfl, ht⟩ := hd
  intro p e s m args below meth c R n0 s0 H locs la K hH hls hB
  exact lv_if_ne K.1 K.2.1 hd ht (fun z => kt z p e s m args below meth c R n0 s0 H locs la K hH hls hB) (fun z => kf z p e s m args below meth c R n0 s0 H locs la K hH hls hB)
theorem XW.if_lt {x : Int32} {off : Int} {tgt : Nat} (hd : xj M.2.1 pc (.ifCond .lt off) 3 nx off tgt) (kt : x < 0 → XW l C M tgt ls st G I r G' I') (kf : ¬ x < 0 → XW l C M nx ls st G I r G' I') : XW l C M pc ls (.int x :: st) G I r G' I' := by
  obtain ⟨hd, rfl, ht⟩ := hd
  intro p e s m args below meth c R n0 s0 H locs la K hH hls hB
  exact lv_if_lt K.1 K.2.1 hd ht (fun z => kt z p e s m args below meth c R n0 s0 H locs la K hH hls hB) (fun z => kf z p e s m args below meth c R n0 s0 H locs la K hH hls hB)
theorem XW.if_ge {x : Int32} {off : Int} {tgt : Nat} (hd : xj M.2.1 pc (.ifCond .ge off) 3 nx off tgt) (kt : 0 ≤ x → XW l C M tgt ls st G I r G' I') (kf : ¬ 0 ≤ x → XW l C M nx ls st G I r G' I') : XW l C M pc ls (.int x :: st) G I r G' I' := by
  obtain ⟨hd, rfl, ht⟩ := hd
  intro p e s m args below meth c R n0 s0 H locs la K hH hls hB
  exact lv_if_ge K.1 K.2.1 hd ht (fun z => kt z p e s m args below meth c R n0 s0 H locs la K hH hls hB) (fun z => kf z p e s m args below meth c R n0 s0 H locs la K hH hls hB)
theorem XW.if_gt {x : Int32} {off : Int} {tgt : Nat} (hd : xj M.2.1 pc (.ifCond .gt off) 3 nx off tgt) (kt : 0 < x → XW l C M tgt ls st G I r G' I') (kf : ¬ 0 < x → XW l C M nx ls st G I r G' I') : XW l C M pc ls (.int x :: st) G I r G' I' := by
  obtain ⟨hd, rfl, ht⟩ := hd
  intro p e s m args below meth c R n0 s0 H locs la K hH hls hB
  exact lv_if_gt K.1 K.2.1 hd ht (fun z => kt z p e s m args below meth c R n0 s0 H locs la K hH hls hB) (fun z => kf z p e s m args below meth c R n0 s0 H locs la K hH hls hB)
theorem XW.if_le {x : Int32} {off : Int} {tgt : Nat} (hd : xj M.2.1 pc (.ifCond .le off) 3 nx off tgt) (kt : x ≤ 0 → XW l C M tgt ls st G I r G' I') (kf : ¬ x ≤ 0 → XW l C M nx ls st G I r G' I') : XW l C M pc ls (.int x :: st) G I r G' I' := by
  obtain ⟨hd, rfl, ht⟩ := hd
  intro p e s m args below meth c R n0 s0 H locs la K hH hls hB
  exact lv_if_le K.1 K.2.1 hd ht (fun z => kt z p e s m args below meth c R n0 s0 H locs la K hH hls hB) (fun z => kf z p e s m args below meth c R n0 s0 H locs la K hH hls hB)
theorem XW.icmp_eq {x y : Int32} {off : Int} {tgt : Nat} (hd : xj M.2.1 pc (.if_icmp .eq off) 3 nx off tgt) (kt : x = y → XW l C M tgt ls st G I r G' I') (kf : ¬ x = y → XW l C M nx ls st G I r G' I') : XW l C M pc ls (.int y :: .int x :: st) G I r G' I' := by
  obtain ⟨hd, rfl, ht⟩ := hd
  intro p e s m args below meth c R n0 s0 H locs la K hH hls hB
  exact lv_icmp_eq K.1 K.2.1 hd ht (fun z => kt z p e s m args below meth c R n0 s0 H locs la K hH hls hB) (fun z => kf z p e s m args below meth c R n0 s0 H locs la K hH hls hB)
theorem XW.icmp_ne {x y : Int32} {off : Int} {tgt : Nat} (hd : xj M.2.1 pc (.if_icmp .ne off) 3 nx off tgt) (kt : ¬ x = y → XW l C M tgt ls st G I r G' I') (kf : x = y → XW l C M nx ls st G I r G' I') : XW l C M pc ls (.int y :: .int x :: st) G I r G' I' := by
  obtain ⟨hd, rfl, ht⟩ := hd
  intro p e s m args below meth c R n0 s0 H locs la K hH hls hB
  exact lv_icmp_ne K.1 K.2.1 hd ht (fun z => kt z p e s m args below meth c R n0 s0 H locs la K hH hls hB) (fun z => kf z p e s m args below meth c R n0 s0 H locs la K hH hls hB)
theorem XW.icmp_lt {x y : Int32} {off : Int} {tgt : Nat} (hd : xj M.2.1 pc (.if_icmp .lt off) 3 nx off tgt) (kt : x < y → XW l C M tgt ls st G I r G' I') (kf : ¬ x < y → XW l C M nx ls st G I r G' I') : XW l C M pc ls (.int y :: .int x :: st) G I r G' I' := by
  obtain ⟨hd, rfl, ht⟩ := hd
  intro p e s m args below meth c R n0 s0 H locs la K hH hls hB
  exact lv_icmp_lt K.1 K.2.1 hd ht (fun z => kt z p e s m args below meth c R n0 s0 H locs la K hH hls hB) (fun z => kf z p e s m args below meth c R n0 s0 H locs la K hH hls hB)
theorem XW.icmp_ge {x y : Int32} {off : Int} {tgt : Nat} (hd : xj M.2.1 pc (.if_icmp .ge off) 3 nx off tgt) (kt : y ≤ x → XW l C M tgt ls st G I r G' I') (kf : ¬ y ≤ x → XW l C M nx ls st G I r G' I') : XW l C M pc ls (.int y :: .int x :: st) G I r G' I' := by
  obtain ⟨hd, rfl, ht⟩ := hd
  intro p e s m args below meth c R n0 s0 H locs la K hH hls hB
  exact lv_icmp_ge K.1 K.2.1 hd ht (fun z => kt z p e s m args below meth c R n0 s0 H locs la K hH hls hB) (fun z => kf z p e s m args below meth c R n0 s0 H locs la K hH hls hB)
theorem XW.icmp_gt {x y : Int32} {off : Int} {tgt : Nat} (hd : xj M.2.1 pc (.if_icmp .gt off) 3 nx off tgt) (kt : y < x → XW l C M tgt ls st G I r G' I') (kf : ¬ y < x → XW l C M nx ls st G I r G' I') : XW l C M pc ls (.int y :: .int x :: st) G I r G' I' := by
  obtain ⟨hd, rfl, ht⟩ := hd
  intro p e s m args below meth c R n0 s0 H locs la K hH hls hB
  exact lv_icmp_gt K.1 K.2.1 hd ht (fun z => kt z p e s m args below meth c R n0 s0 H locs la K hH hls hB) (fun z => kf z p e s m args below meth c R n0 s0 H locs la K hH hls hB)
theorem XW.icmp_le {x y : Int32} {off : Int} {tgt : Nat} (hd : xj M.2.1 pc (.if_icmp .le off) 3 nx off tgt) (kt : x ≤ y → XW l C M tgt ls st G I r G' I') (kf : ¬ x ≤ y → XW l C M nx ls st G I r G' I') : XW l C M pc ls (.int y :: .int x :: st) G I r G' I' := by
  obtain ⟨hd, rfl, ht⟩ := hd
  intro p e s m args below meth c R n0 s0 H locs la K hH hls hB
  exact lv_icmp_le K.1 K.2.1 hd ht (fun z => kt z p e s m args below meth c R n0 s0 H locs la K hH hls hB) (fun z => kf z p e s m args below meth c R n0 s0 H locs la K hH hls hB)
theorem XW.goto {off : Int} {tgt : Nat} (hd : xj M.2.1 pc (.goto off) 3 nx off tgt) (kk : XW l C M tgt ls st G I r G' I') : XW l C M pc ls st G I r G' I' := by
  obtain ⟨hd, rfl, ht⟩ := hd
  intro p e s m args below meth c R n0 s0 H locs la K hH hls hB
  exact lv_goto K.1 K.2.1 hd ht (kk p e s m args below meth c R n0 s0 H locs la K hH hls hB)
theorem XW.ifnull {a : Nat} {off : Int} {tgt : Nat} (hd : xj M.2.1 pc (.ifnull off) 3 nx off tgt) (kt : a = 0 → XW l C M tgt ls st G I r G' I') (kf : a ≠ 0 → XW l C M nx ls st G I r G' I') : XW l C M pc ls (.ref a :: st) G I r G' I' := by
  obtain ⟨hd, rfl, ht⟩ := hd
  intro p e s m args below meth c R n0 s0 H locs la K hH hls hB
  rw [List.map_cons]
  by_cases ha : a = 0
  · subst ha
    rw [xv_null]
    exact lv_ifnullN K.1 K.2.1 hd ht (kt rfl p e s m args below meth c R n0 s0 H locs la K hH hls hB)
  · rw [xv_ref ha]
    exact lv_ifnull K.1 K.2.1 hd (kf ha p e s m args below meth c R n0 s0 H locs la K hH hls hB)
theorem XW.ifnonnull {a : Nat} {off : Int} {tgt : Nat} (hd : xj M.2.1 pc (.ifnonnull off) 3 nx off tgt) (kt : a ≠ 0 → XW l C M tgt ls st G I r G' I') (kf : a = 0 → XW l C M nx ls st G I r G' I') : XW l C M pc ls (.ref a :: st) G I r G' I' := by
  obtain ⟨hd, rfl, ht⟩ := hd
  intro p e s m args below meth c R n0 s0 H locs la K hH hls hB
  rw [List.map_cons]
  by_cases ha : a = 0
  · subst ha
    rw [xv_null]
    exact lv_ifnonnullN K.1 K.2.1 hd (kf rfl p e s m args below meth c R n0 s0 H locs la K hH hls hB)
  · rw [xv_ref ha]
    exact lv_ifnonnull K.1 K.2.1 hd ht (kt ha p e s m args below meth c R n0 s0 H locs la K hH hls hB)
theorem XW.tabIn {dflt lo hi off : Int} {offs : Array Int} {n : Nat} {x : Int32} {tgt : Nat} (hd : decode M.2.1 pc = .ok (.tableswitch dflt lo hi offs, n)) (h1 : ¬ x.toInt < lo) (h2 : ¬ hi < x.toInt) (ho : offs[(x.toInt - lo).toNat]? = some off) (ht : (pc : Int) + off = (tgt : Int)) (kk : XW l C M tgt ls st G I r G' I') : XW l C M pc ls (.int x :: st) G I r G' I' := by
  intro p e s m args below meth c R n0 s0 H locs la K hH hls hB
  exact lv_tableIn K.1 K.2.1 hd h1 h2 ho ht (kk p e s m args below meth c R n0 s0 H locs la K hH hls hB)
theorem XW.tabOut {dflt lo hi : Int} {offs : Array Int} {n : Nat} {x : Int32} {tgt : Nat} (hd : decode M.2.1 pc = .ok (.tableswitch dflt lo hi offs, n)) (h : x.toInt < lo ∨ hi < x.toInt) (ht : (pc : Int) + dflt = (tgt : Int)) (kk : XW l C M tgt ls st G I r G' I') : XW l C M pc ls (.int x :: st) G I r G' I' := by
  intro p e s m args below meth c R n0 s0 H locs la K hH hls hB
  exact lv_tableOut K.1 K.2.1 hd h ht (kk p e s m args below meth c R n0 s0 H locs la K hH hls hB)
end XROWS
end
section
/-! rows of the heap -/
/-- field k of class c, as the instruction at own's entry idx names it -/
def xF (own : String) (idx c k : Nat) : Prop := ∃ q : vw_C, vwCl[c]? = some q ∧ k < q.2.2 ∧ Cond.fieldLink own idx (q.2.1 k).1 (q.2.1 k).2.1 (q.2.1 k).2.2.1 ∈ xtbl
section XHEAP
variable {l : Launch} {C : xC} {M : xM} {pc nx : Nat} {ls ls' : List (Option Value)} {st : List Value} {G G' : xG} {I I' : xI} {r : Option Value}
theorem XW.getV {a idx c k : Nat} {v : Value} (hd : xd M.2.1 pc (.getfield idx) 3 nx) (hF : xF M.1.cls idx c k) (ha : gO G a c) (hv : xfv C G I a k = xv C v) (kk : XW l C M nx ls (v :: st) G I r G' I') : XW l C M pc ls (.ref a :: st) G I r G' I' := by
  obtain ⟨hd, rfl⟩ := hd
  obtain ⟨q, hc, hk, hl⟩ := hF
  intro p e s m args below meth cd R n0 s0 H locs la K hH hls hB
  obtain ⟨cell, q1, q2, q3, q4⟩ := hH.obj ha hc
  obtain ⟨hS, hfc, kC, hkC, hkind⟩ := hH.1.1 c q hc
  obtain ⟨cf, kf, fi, f, hi, hsl⟩ := hS k hk
  have ha0 : a ≠ 0 := by have := ha.1; omega
  refine W.getf K.1 K.2.1 K.2.2.2.2.1 (K.2.2.2.2.2.1 _ hl) hi (u_facts hfc hkC (u_lays K.2.2.2.2.2.1 (xIn_ok c q hc) hk) hi).1 q1 (by rw [q3]; exact fun h => by cases h) (v := xv C v) ?_ rfl (rest := st.map (xv C)) ?_ hd (kk p e s m args below meth cd R n0 s0 H locs la K hH hls hB)
  · rw [hsl, q4 k hk, hv]
  · show xv C (.ref a) :: _ = _
    rw [xv_ref ha0]
theorem XW.getI {a idx c k : Nat} (hd : xd M.2.1 pc (.getfield idx) 3 nx) (hF : xF M.1.cls idx c k) (hr : xrf c k = false) (ha : gO G a c) (kk : XW l C M nx ls (.int (I a k) :: st) G I r G' I') : XW l C M pc ls (.ref a :: st) G I r G' I' :=
  XW.getV hd hF ha (by rw [xfv, ha.2.2, if_neg (by rw [hr]; decide)]; rfl) kk
theorem XW.getR {a b idx c k : Nat} (hd : xd M.2.1 pc (.getfield idx) 3 nx) (hF : xF M.1.cls idx c k) (hr : xrf c k = true) (ha : gO G a c) (hb : gR G a k = b) (kk : XW l C M nx ls (.ref b :: st) G I r G' I') : XW l C M pc ls (.ref a :: st) G I r G' I' :=
  XW.getV hd hF ha (by rw [xfv, ha.2.2, if_pos hr, hb]; rfl) kk
/-- a put: of a plain field anywhere, of a final one in a constructor of its own class -/
theorem XW.putV {a idx c k : Nat} {v : Value} {G1 : xG} {I1 : xI} (hd : xd M.2.1 pc (.putfield idx) 3 nx) (hF : xF M.1.cls idx c k)
    (hf : ∀ q : vw_C, vwCl[c]? = some q → (q.2.1 k).2.2.2 = false ∨ ((q.2.1 k).2.2.2 = true ∧ M.1.name = "<init>" ∧ (q.2.1 k).1 = M.1.cls)) (hn : narrow (xTy c k) (xv C v) = xv C v) (hfit : fits (xTy c k) (xv C v) = true) (ha : gO G a c)
    (hN : gN G1 = gN G) (hS1 : gS G1 = gS G) (hT : ∀ b, gT G1 b = gT G b) (hL : ∀ b, gL G1 b = gL G b) (hR : ∀ b, b ≠ a → gR G1 b = gR G b) (hI : ∀ b, b ≠ a → I1 b = I b) (hv : xfv C G1 I1 a k = xv C v) (hv2 : ∀ j, j ≠ k → xfv C G1 I1 a j = xfv C G I a j)
    (kk : XW l C M nx ls st G1 I1 r G' I') : XW l C M pc ls (v :: .ref a :: st) G I r G' I' := by
  obtain ⟨hd, rfl⟩ := hd
  obtain ⟨q, hc, hk, hl⟩ := hF
  intro p e s m args below meth cd R n0 s0 H locs la K hH hls hB
  obtain ⟨cell, q1, q2, q3, q4⟩ := hH.obj ha hc
  obtain ⟨hS, hfc, kC, hkC, hkind⟩ := hH.1.1 c q hc
  have hts := K.2.2.2.2.2.1
  have hin := xIn_ok c q hc
  have hap : ∀ x y, x < q.2.2 → y < q.2.2 → x ≠ y → (C.2.2.2.2.1.2 c) x ≠ (C.2.2.2.2.1.2 c) y := by
    intro x y hx hy hne
    obtain ⟨_, _, _, fa, hia, ea⟩ := hS x hx
    obtain ⟨_, _, _, fb, hib, eb⟩ := hS y hy
    rw [← ea, ← eb]
    refine u_apart (u_lays hts hin hx) (u_lays hts hin hy) hia hib ?_
    rw [(State.fieldFound?_type hia (xTy_ok c q hc x hx)).1, (State.fieldFound?_type hib (xTy_ok c q hc y hy)).1]
    exact xNm_ok c q hc x hx y hy hne
  obtain ⟨cf, kf, fi, f, hi, hsl⟩ := hS k hk
  have hst := (u_facts hfc hkC (u_lays hts hin hk) hi).1
  have ha0 : a ≠ 0 := by have := ha.1; omega
  have hstk : (F0 m pc la ((v :: .ref a :: st).map (xv C))).stack = xv C v :: .ref (xad C a) :: st.map (xv C) := by
    show xv C v :: xv C (.ref a) :: _ = _
    rw [xv_ref ha0]
  have hlay := hts _ (hin _ (u_in_lay hk))
  unfold u_lay at hlay
  have hlt : f.slot < cell.slots.size := by rw [hsl]; exact k2_hasslot (q4 k hk)
  have hnext : ∀ H' : Heap, H'[xad C a]? = some (cell.setSlot f.slot (xv C v)) → H'.size = H.size → (∀ x, x ≠ xad C a → H'[x]? = H[x]?) → W p l e R s m args below meth cd H' (locs ++ [⟨xad C a, f.slot⟩]) (gN G - n0) (gS G - s0) (MQ below (xQc C r G' I') args s R.cells R.slots (fun q => C.1 ≤ q)) (F0 m (pc + 3) la (st.map (xv C))) := by
    intro H' e1 e2 e3
    rw [← hN, ← hS1]
    refine kk p e s m args below meth cd R n0 s0 H' _ la K (hH.put ha.1 e2 e3 hN hT hL hR hI ⟨fun q' hq' => ?_, fun hq' => ?_⟩) hls ⟨by rw [hN]; exact hB.1, by rw [hS1]; exact hB.2.1, hB.2.2.1, hB.2.2.2.1, fun x hx => ?_⟩
    · rw [hT a, ha.2.2] at hq' ⊢
      cases hc.symm.trans hq'
      rw [hsl] at e1
      refine t_OB.to (V := updV (xfv C G I a) k (xv C v)) ⟨_, e1, q2, q3, t_set q4 hap hk _⟩ (fun j _ => ?_)
      unfold updV
      split
      · next h => rw [h, hv]
      · next h => rw [hv2 j h]
    · rw [hT a, ha.2.2] at hq'
      have := xcl_lt hc
      omega
    · rcases List.mem_append.mp hx with h | h
      · exact hB.2.2.2.2 x h
      · rw [List.mem_singleton.mp h]
        show C.1 ≤ xad C a
        rw [xad_of ha.1]; omega
  rcases hf q hc with hfin | ⟨hfin, hin2, hdecl⟩
  · rw [if_neg (by rw [hfin]; decide)] at hlay
    have h6 := u_store hfc hkC hkind hlay hi (xTy_ok c q hc k hk) hn hfit
    exact W.putK K.1 K.2.1 (f := f) ⟨K.2.2.2.2.1, hts _ hl, ⟨_, _, _, hi⟩, hst⟩ (by rw [q2]; exact h6) q1 q3 hlt rfl hstk hd hnext
  · rw [if_pos hfin] at hlay
    have hcf : m.cls = cf := by
      obtain ⟨_, _, c', _, _, _, -, -, hf', -, -, -, hown2, -⟩ := Cond.laysFinal_spec hlay
      have e1 : c' = cf := by have := hi.symm.trans hf'; simp at this; exact this.1.symm
      rw [hdecl] at hown2
      rw [← e1]; exact Option.some.inj (K.2.2.2.2.1.symm.trans hown2)
    have h6 := u_fits hfc hkC hkind (Or.inr hlay) hi (xTy_ok c q hc k hk) hn hfit
    exact W.putFinK K.1 K.2.1 K.2.2.2.2.1 (hts _ hl) hi hst hcf (K.2.2.2.2.2.2.2.1 hin2) (by rw [q2]; exact h6) q1 q3 hlt rfl hstk hd hnext
/-- plain: the field isn't final; or it is, and this is its class's constructor -/
def xP (M : xM) (c k : Nat) : Prop := ∀ q : vw_C, vwCl[c]? = some q → (q.2.1 k).2.2.2 = false ∨ ((q.2.1 k).2.2.2 = true ∧ M.1.name = "<init>" ∧ (q.2.1 k).1 = M.1.cls)
theorem XW.putI {a idx c k : Nat} {x : Int32} (hd : xd M.2.1 pc (.putfield idx) 3 nx) (hF : xF M.1.cls idx c k) (hf : xP M c k) (hr : xrf c k = false) (hn : narrow (xTy c k) (.int x) = .int x ∧ fits (xTy c k) (.int x) = true) (ha : gO G a c)
    (kk : XW l C M nx ls st G (wI I a k x) r G' I') : XW l C M pc ls (.int x :: .ref a :: st) G I r G' I' := by
  refine XW.putV (G1 := G) (I1 := wI I a k x) hd hF hf hn.1 hn.2 ha rfl rfl (fun _ => rfl) (fun _ => rfl) (fun _ _ => rfl) (fun b hb => wI_ne _ _ _ hb) ?_ (fun j hj => ?_) kk
  · rw [xfv, ha.2.2, if_neg (by rw [hr]; decide), wI_same]
    simp [upd, xv]
  · unfold xfv
    rw [wI_same]
    simp [upd, hj]
theorem XW.putR {a b idx c k : Nat} (hd : xd M.2.1 pc (.putfield idx) 3 nx) (hF : xF M.1.cls idx c k) (hf : xP M c k) (hr : xrf c k = true) (ha : gO G a c)
    (kk : XW l C M nx ls st (wR G a k b) I r G' I') : XW l C M pc ls (.ref b :: .ref a :: st) G I r G' I' := by
  obtain ⟨q, hc, hk, hl⟩ := id hF
  have hv : xv C (.ref b) = .null ∨ ∃ a, xv C (.ref b) = .ref a := by
    by_cases hb : b = 0
    · subst hb; exact Or.inl xv_null
    · exact Or.inr ⟨_, xv_ref hb⟩
  have hfi := xRef_fit (xRf_ok c q hc k hk hr) hv
  refine XW.putV (G1 := wR G a k b) (I1 := I) hd hF hf hfi.1 hfi.2 ha rfl rfl (fun _ => rfl) (fun _ => rfl) (fun x hx => ?_) (fun _ _ => rfl) ?_ (fun j hj => ?_) kk
  · show (if x = a then _ else _) = _
    rw [if_neg hx]
  · have e1 : gT (wR G a k b) a = c := ha.2.2
    have e2 : gR (wR G a k b) a k = b := by simp [gR, wR]
    rw [xfv, e1, if_pos hr, e2]; rfl
  · have e1 : gT (wR G a k b) a = gT G a := rfl
    have e2 : gR (wR G a k b) a j = gR G a j := by simp [gR, wR, hj]
    unfold xfv
    rw [e1, e2]
/-! arrays -/
theorem xin_lt {i : Int32} {n : Nat} (h : vp_in i n) : i.toNatClampNeg < n := Nat.not_le.mp fun q => h (Or.inr q)
theorem XW.iaload {a n : Nat} {i : Int32} (hd : xd M.2.1 pc .iaload 1 nx) (ha : gA G a 100 n) (hi : vp_in i n) (kk : XW l C M nx ls (.int (I a i.toNatClampNeg) :: st) G I r G' I') : XW l C M pc ls (.int i :: .ref a :: st) G I r G' I' := by
  obtain ⟨hd, rfl⟩ := hd
  intro p e s m args below meth cd R n0 s0 H locs la K hH hls hB
  have hc := hH.arr ha (by omega)
  have ha0 : a ≠ 0 := by have := ha.1; omega
  have hA := hH.1.2.1 100 .int rfl
  refine W.iald K.1 K.2.1 hc (hA.1 _ _) (fun h => by cases h) (by rw [arrV_size]; exact hi) (v := .int (I a i.toNatClampNeg)) ?_ rfl (rest := st.map (xv C)) ?_ hd (kk p e s m args below meth cd R n0 s0 H locs la K hH hls hB)
  · rw [arrV_read _ _ (xin_lt hi), xev, ha.2.2.1]; rfl
  · show xv C (.int i) :: xv C (.ref a) :: _ = _
    rw [xv_ref ha0]; rfl
theorem XW.baload {a n : Nat} {i : Int32} (hd : xd M.2.1 pc .baload 1 nx) (ha : gA G a 101 n) (hi : vp_in i n) (kk : XW l C M nx ls (.int (I a i.toNatClampNeg) :: st) G I r G' I') : XW l C M pc ls (.int i :: .ref a :: st) G I r G' I' := by
  obtain ⟨hd, rfl⟩ := hd
  intro p e s m args below meth cd R n0 s0 H locs la K hH hls hB
  have hc := hH.arr ha (by omega)
  have ha0 : a ≠ 0 := by have := ha.1; omega
  have hA := hH.1.2.1 101 .boolean rfl
  refine W.zald K.1 K.2.1 hc (hA.1 _ _) (fun h => by cases h) (by rw [arrV_size]; exact hi) (v := .int (I a i.toNatClampNeg)) ?_ rfl (rest := st.map (xv C)) ?_ hd (kk p e s m args below meth cd R n0 s0 H locs la K hH hls hB)
  · rw [arrV_read _ _ (xin_lt hi), xev, ha.2.2.1]; rfl
  · show xv C (.int i) :: xv C (.ref a) :: _ = _
    rw [xv_ref ha0]; rfl
theorem XW.aaload {a b t n : Nat} {i : Int32} (hd : xd M.2.1 pc .aaload 1 nx) (ha : gA G a t n) (ht : 102 ≤ t ∧ (xAr t).isSome = true) (hi : vp_in i n) (hb : gR G a i.toNatClampNeg = b) (kk : XW l C M nx ls (.ref b :: st) G I r G' I') : XW l C M pc ls (.int i :: .ref a :: st) G I r G' I' := by
  obtain ⟨hd, rfl⟩ := hd
  intro p e s m args below meth cd R n0 s0 H locs la K hH hls hB
  have hc := hH.arr ha (by omega)
  have ha0 : a ≠ 0 := by have := ha.1; omega
  obtain ⟨ty, hty⟩ := Option.isSome_iff_exists.mp ht.2
  have hA := hH.1.2.1 t ty hty
  have hrt : ty.isReference = true := by
    unfold xAr at hty
    split at hty <;> first | (cases hty; rfl) | omega | (cases hty)
  refine W.aald K.1 K.2.1 hc (hA.1 _ _) hrt (fun h => by cases h) (by rw [arrV_size]; exact hi) (v := xv C (.ref b)) ?_ rfl (rest := st.map (xv C)) ?_ hd (kk p e s m args below meth cd R n0 s0 H locs la K hH hls hB)
  · rw [arrV_read _ _ (xin_lt hi), xev, ha.2.2.1, if_neg (by omega), hb]; rfl
  · show xv C (.int i) :: xv C (.ref a) :: _ = _
    rw [xv_ref ha0]; rfl
theorem XW.alen {a t n : Nat} {v : Int32} (hd : xd M.2.1 pc .arraylength 1 nx) (ha : gA G a t n) (ht : 100 ≤ t ∧ (xAr t).isSome = true) (hv : Int32.ofNat n = v) (kk : XW l C M nx ls (.int v :: st) G I r G' I') : XW l C M pc ls (.ref a :: st) G I r G' I' := by
  obtain ⟨hd, rfl⟩ := hd
  intro p e s m args below meth cd R n0 s0 H locs la K hH hls hB
  have hc := hH.arr ha ht.1
  have ha0 : a ≠ 0 := by have := ha.1; omega
  obtain ⟨ty, hty⟩ := Option.isSome_iff_exists.mp ht.2
  have hA := hH.1.2.1 t ty hty
  refine W.alen K.1 K.2.1 hc (hA.1 _ _) (n := v) (by rw [arrV_size]; exact hv) rfl (rest := st.map (xv C)) ?_ hd (kk p e s m args below meth cd R n0 s0 H locs la K hH hls hB)
  show xv C (.ref a) :: _ = _
  rw [xv_ref ha0]
/-- what a store of one place does to the picture -/
theorem xH.store {s : State} {H H1 : Heap} {a t n j : Nat} {x : Value} {G1 : xG} {I1 : xI} (h : xH C s G I H) (ha : gA G a t n) (ht : 100 ≤ t) (e1 : H1[xad C a]? = some ((arrV (C.2.2.2.2.2 t) n (xev C G I a)).setSlot j x)) (z : H1.size = H.size) (oq : ∀ q : Nat, q ≠ xad C a → H1[q]? = H[q]?)
    (hN : gN G1 = gN G) (hT : ∀ b, gT G1 b = gT G b) (hL : ∀ b, gL G1 b = gL G b) (hR : ∀ b, b ≠ a → gR G1 b = gR G b) (hI : ∀ b, b ≠ a → I1 b = I b) (hv : xev C G1 I1 a = updV (xev C G I a) j x) : xH C s G1 I1 H1 := by
  refine h.put ha.1 z oq hN hT hL hR hI ⟨fun q hq => ?_, fun _ => ?_⟩
  · rw [hT, ha.2.2.1] at hq
    have := xcl_lt hq
    omega
  · rw [hT, ha.2.2.1, hL, ha.2.2.2, hv, e1, arrV_store]
theorem xlocs {locs : List Loc} {a j : Nat} (h : ∀ q ∈ locs, C.1 ≤ q.base) (ha : 2 ≤ a) : ∀ q ∈ locs ++ [⟨xad C a, j⟩], C.1 ≤ q.base := by
  intro x hx
  rcases List.mem_append.mp hx with h' | h'
  · exact h x h'
  · rw [List.mem_singleton.mp h']
    show C.1 ≤ xad C a
    rw [xad_of ha]; omega
theorem XW.iastore {a n : Nat} {i x : Int32} (hd : xd M.2.1 pc .iastore 1 nx) (ha : gA G a 100 n) (hi : vp_in i n) (kk : XW l C M nx ls st G (wI I a i.toNatClampNeg x) r G' I') : XW l C M pc ls (.int x :: .int i :: .ref a :: st) G I r G' I' := by
  obtain ⟨hd, rfl⟩ := hd
  intro p e s m args below meth cd R n0 s0 H locs la K hH hls hB
  have hc := hH.arr ha (by omega)
  have ha0 : a ≠ 0 := by have := ha.1; omega
  have hA := hH.1.2.1 100 .int rfl
  refine W.iast (j := i) (x := x) K.1 K.2.1 hc (hA.1 _ _) (fun h => by cases h) (by rw [arrV_size]; exact hi) rfl (rest := st.map (xv C)) ?_ hd (fun H1 e1 z oq => kk p e s m args below meth cd R n0 s0 H1 _ la K (hH.store (G1 := G) (I1 := wI I a i.toNatClampNeg x) ha (by omega) e1 z oq rfl (fun _ => rfl) (fun _ => rfl) (fun _ _ => rfl) (fun b hb => wI_ne _ _ _ hb) ?_) hls ⟨hB.1, hB.2.1, hB.2.2.1, hB.2.2.2.1, xlocs hB.2.2.2.2 ha.1⟩)
  · show xv C (.int x) :: xv C (.int i) :: xv C (.ref a) :: _ = _
    rw [xv_ref ha0]; rfl
  · funext j
    have hT : gT G a < 102 := by rw [ha.2.2.1]; omega
    unfold xev updV
    rw [if_pos hT, wI_same]
    unfold upd
    split
    · rfl
    · rfl
theorem XW.bastore {a n : Nat} {i x : Int32} (hd : xd M.2.1 pc .bastore 1 nx) (ha : gA G a 101 n) (hi : vp_in i n) (hx : narrow .boolean (.int x) = .int x) (kk : XW l C M nx ls st G (wI I a i.toNatClampNeg x) r G' I') : XW l C M pc ls (.int x :: .int i :: .ref a :: st) G I r G' I' := by
  obtain ⟨hd, rfl⟩ := hd
  intro p e s m args below meth cd R n0 s0 H locs la K hH hls hB
  have hc := hH.arr ha (by omega)
  have ha0 : a ≠ 0 := by have := ha.1; omega
  have hA := hH.1.2.1 101 .boolean rfl
  refine W.zast (j := i) (x := x) K.1 K.2.1 hc (hA.1 _ _) (fun h => by cases h) (by rw [arrV_size]; exact hi) rfl (rest := st.map (xv C)) ?_ hd (fun H1 e1 z oq => kk p e s m args below meth cd R n0 s0 H1 _ la K (hH.store (G1 := G) (I1 := wI I a i.toNatClampNeg x) (x := .int x) ha (by omega) (by rw [← hx]; exact e1) z oq rfl (fun _ => rfl) (fun _ => rfl) (fun _ _ => rfl) (fun b hb => wI_ne _ _ _ hb) ?_) hls ⟨hB.1, hB.2.1, hB.2.2.1, hB.2.2.2.1, xlocs hB.2.2.2.2 ha.1⟩)
  · show xv C (.int x) :: xv C (.int i) :: xv C (.ref a) :: _ = _
    rw [xv_ref ha0]; rfl
  · funext j
    have hT : gT G a < 102 := by rw [ha.2.2.1]; omega
    unfold xev updV
    rw [if_pos hT, wI_same]
    unfold upd
    split
    · rfl
    · rfl
end XHEAP
end
section
/-! rows: making cells, references into arrays, classes of objects, returns, calls -/
section XMAKE
variable {l : Launch} {C : xC} {M : xM} {pc nx : Nat} {ls ls' : List (Option Value)} {st : List Value} {G G' : xG} {I I' : xI} {r : Option Value}
theorem aO_N (G : xG) (c n : Nat) : gN (aO G c n) = gN G + 1 := rfl
theorem aO_S (G : xG) (c n : Nat) : gS (aO G c n) = gS G + n := rfl
theorem aA_N (G : xG) (c n : Nat) : gN (aA G c n) = gN G + 1 := rfl
theorem aA_S (G : xG) (c n : Nat) : gS (aA G c n) = gS G + n := rfl
theorem aO_T (G : xG) (c n : Nat) : gT (aO G c n) (gN G) = c := by simp [gT, aO]
theorem aA_T (G : xG) (c n : Nat) : gT (aA G c n) (gN G) = c := by simp [gT, aA]
theorem aA_L (G : xG) (c n : Nat) : gL (aA G c n) (gN G) = n := by simp [gL, aA]
theorem aO_Tn (G : xG) (c n : Nat) {b : Nat} (h : b ≠ gN G) : gT (aO G c n) b = gT G b := by simp [gT, aO, h]
theorem aO_Ln (G : xG) (c n : Nat) (b : Nat) : gL (aO G c n) b = gL G b := rfl
theorem aA_Tn (G : xG) (c n : Nat) {b : Nat} (h : b ≠ gN G) : gT (aA G c n) b = gT G b := by simp [gT, aA, h]
theorem aA_Ln (G : xG) (c n : Nat) {b : Nat} (h : b ≠ gN G) : gL (aA G c n) b = gL G b := by simp [gL, aA, h]
theorem aO_R (G : xG) (c n : Nat) : gR (aO G c n) (gN G) = fun _ => 0 := by funext k; simp [gR, aO]
theorem aA_R (G : xG) (c n : Nat) : gR (aA G c n) (gN G) = fun _ => 0 := by funext k; simp [gR, aA]
theorem aO_Rn (G : xG) (c n : Nat) {b : Nat} (h : b ≠ gN G) : gR (aO G c n) b = gR G b := by funext k; simp [gR, aO, h]
theorem aA_Rn (G : xG) (c n : Nat) {b : Nat} (h : b ≠ gN G) : gR (aA G c n) b = gR G b := by funext k; simp [gR, aA, h]
theorem wN_same (I : xI) (a : Nat) : wN I a a = fun _ => 0 := by simp [wN]
theorem wN_ne (I : xI) {a b : Nat} (h : b ≠ a) : wN I a b = I b := by simp [wN, h]
/-- class c, as 'new' at own's entry idx makes it -/
def xNw (own : String) (idx c n : Nat) : Prop := ∃ q : vw_C, vwCl[c]? = some q ∧ q.2.2 = n ∧ Cond.classLink own idx q.1 ∈ xtbl ∧ Cond.instantiable q.1 n ∈ xtbl ∧ Cond.initialized q.1 ∈ xtbl
theorem XW.new {idx c n : Nat} (hd : xd M.2.1 pc (.new idx) 3 nx) (hN : xNw M.1.cls idx c n) (hroom : gN G + 1 ≤ gN G' ∧ gS G + n ≤ gS G') (kk : XW l C M nx ls (.ref (gN G) :: st) (aO G c n) (wN I (gN G)) r G' I') : XW l C M pc ls st G I r G' I' := by
  obtain ⟨hd, rfl⟩ := hd
  obtain ⟨q, hc, rfl, hl1, hl2, hl3⟩ := hN
  intro p e s m args below meth cd R n0 s0 H locs la K hH hls hB
  obtain ⟨b1, b2, b3, b4, b5⟩ := hB
  have hts := K.2.2.2.2.2.1
  have hKn := hH.1.1 c q hc
  refine W.newcK K.1 K.2.1 K.2.2.2.2.1 (hts _ hl1) (hts _ hl2) (hts _ hl3) rfl hd (by omega) (by omega) hKn.2.1 rfl (fun H1 kC hkC e1 z1 o1 => ?_)
  have hob := u_born (xTy c) hts (xIn_ok c q hc) hKn hkC e1 (xTy_ok c q hc)
  have hX : xH C s (aO G c q.2.2) (wN I (gN G)) H1 := by
    refine hH.grow z1 o1 rfl (fun b hb => aO_Tn G _ _ hb) (fun b _ => rfl) (fun b hb => aO_Rn G _ _ hb) (fun b hb => wN_ne I hb) ⟨fun q' hq' => ?_, fun hq' => ?_⟩
    · rw [aO_T] at hq' ⊢
      cases hc.symm.trans hq'
      rw [hH.end]
      refine hob.to (fun k hk => ?_)
      rw [xDf_ok c q hc k hk, xfv, aO_T, aO_R, wN_same, xr_null]
    · rw [aO_T] at hq'
      have := xcl_lt hc
      omega
  have hk := kk p e s m args below meth cd R n0 s0 H1 locs la K hX hls ⟨by rw [aO_N]; omega, by rw [aO_S]; omega, b3, b4, b5⟩
  refine W.cs (cells' := gN (aO G c q.2.2) - n0) (slots' := gS (aO G c q.2.2) - s0) (by rw [aO_N]; omega) (by rw [aO_S]; omega) ?_
  rw [List.map_cons, xv_ref (by have := hH.2.2.2.1; omega), hH.end] at hk
  exact hk
theorem XW.newarr {a : ArrayType} {ty : FieldType} {t : Nat} {n : Int32} {N : Nat} (hd : xd M.2.1 pc (.newarray a) 2 nx) (hty : newarray.typeOf a = ty) (ht : xAr t = some ty) (hp : t < 102 ∧ 100 ≤ t) (hl : Cond.arrayClass ty ∈ xtbl) (hdf : defaultValue ty = .int 0 ∧ componentBytes ty ≤ 4) (hra : ∀ (U : State) (cA : ClassId), va_RA U cA ty = (U.vm.findClass ("[" ++ ty.toString) = some cA))
    (hn : ¬ n < 0) (hN : n.toNatClampNeg = N) (hbig : N ≤ 100000000) (hroom : gN G + 1 ≤ gN G' ∧ gS G + N ≤ gS G') (kk : XW l C M nx ls (.ref (gN G) :: st) (aA G t N) (wN I (gN G)) r G' I') : XW l C M pc ls (.int n :: st) G I r G' I' := by
  obtain ⟨hd, rfl⟩ := hd
  subst hty
  intro p e s m args below meth cd R n0 s0 H locs la K hH hls hB
  obtain ⟨b1, b2, b3, b4, b5⟩ := hB
  have hts := K.2.2.2.2.2.1
  have hA := hH.1.2.1 t _ ht
  have hby : N * componentBytes (newarray.typeOf a) ≤ 536870912 := Nat.le_trans (Nat.mul_le_mul hbig hdf.2) (by omega)
  refine va_newaK K.1 K.2.1 (hts _ hl) rfl hd (n := n) (N := N) (rest := st.map (xv C)) rfl hn hN hby (by omega) (by omega) rfl (fun H1 cA e1 z1 o1 _ hf => ?_)
  have hcA : C.2.2.2.2.2 t = cA := by
    have h9 := hA.2
    rw [hra] at h9
    exact Option.some.inj (h9.symm.trans hf)
  have hX : xH C s (aA G t N) (wN I (gN G)) H1 := by
    refine hH.grow z1 o1 rfl (fun b hb => aA_Tn G _ _ hb) (fun b hb => aA_Ln G _ _ hb) (fun b hb => aA_Rn G _ _ hb) (fun b hb => wN_ne I hb) ⟨fun q' hq' => ?_, fun hq' => ?_⟩
    · rw [aA_T] at hq'
      have := xcl_lt hq'
      omega
    · rw [aA_T, aA_L, hH.end, e1, hcA]
      congr 2
      funext j
      rw [xev, aA_T, if_pos hp.1, wN_same, hdf.1]
  have hk := kk p e s m args below meth cd R n0 s0 H1 locs la K hX hls ⟨by rw [aA_N]; omega, by rw [aA_S]; omega, b3, b4, b5⟩
  refine W.cs (cells' := gN (aA G t N) - n0) (slots' := gS (aA G t N) - s0) (by rw [aA_N]; omega) (by rw [aA_S]; omega) ?_
  rw [List.map_cons, xv_ref (by have := hH.2.2.2.1; omega), hH.end] at hk
  exact hk
theorem xarr_int : Cond.arrayClass .int ∈ xtbl := by decide +kernel
theorem xarr_bool : Cond.arrayClass .boolean ∈ xtbl := by decide +kernel
theorem XW.newI {n : Int32} {N : Nat} (hd : xd M.2.1 pc (.newarray .int) 2 nx) (hn : ¬ n < 0) (hN : n.toNatClampNeg = N) (hbig : N ≤ 100000000) (hroom : gN G + 1 ≤ gN G' ∧ gS G + N ≤ gS G') (kk : XW l C M nx ls (.ref (gN G) :: st) (aA G 100 N) (wN I (gN G)) r G' I') : XW l C M pc ls (.int n :: st) G I r G' I' :=
  XW.newarr (t := 100) (ty := .int) hd rfl rfl (by omega) xarr_int ⟨rfl, by decide⟩ (fun _ _ => rfl) hn hN hbig hroom kk
theorem XW.newZ {n : Int32} {N : Nat} (hd : xd M.2.1 pc (.newarray .boolean) 2 nx) (hn : ¬ n < 0) (hN : n.toNatClampNeg = N) (hbig : N ≤ 100000000) (hroom : gN G + 1 ≤ gN G' ∧ gS G + N ≤ gS G') (kk : XW l C M nx ls (.ref (gN G) :: st) (aA G 101 N) (wN I (gN G)) r G' I') : XW l C M pc ls (.int n :: st) G I r G' I' :=
  XW.newarr (t := 101) (ty := .boolean) hd rfl rfl (by omega) xarr_bool ⟨rfl, by decide⟩ (fun _ _ => rfl) hn hN hbig hroom kk
/-- an array of references, as 'anewarray' at own's entry idx makes it -/
theorem XW.anew {idx t : Nat} {nm : String} {n : Int32} {N : Nat} (hd : xd M.2.1 pc (.anewarray idx) 3 nx) (ht : xAr t = some (.object nm)) (hp : 102 ≤ t) (ho : nm ∈ xOv) (hl : Cond.classLink M.1.cls idx nm ∈ xtbl) (hn : ¬ n < 0) (hN : n.toNatClampNeg = N) (hbig : N ≤ 100000000) (hroom : gN G + 1 ≤ gN G' ∧ gS G + N ≤ gS G') (kk : XW l C M nx ls (.ref (gN G) :: st) (aA G t N) (wN I (gN G)) r G' I') : XW l C M pc ls (.int n :: st) G I r G' I' := by
  obtain ⟨hd, rfl⟩ := hd
  subst hN
  intro p e s m args below meth cd R n0 s0 H locs la K hH hls hB
  obtain ⟨b1, b2, b3, b4, b5⟩ := hB
  have hts := K.2.2.2.2.2.1
  have hA := hH.1.2.1 t _ ht
  refine W.anew K.1 K.2.1 K.2.2.2.2.1 (hts _ hl) (va_AO.use (hH.1.2.2.2.2.1 nm ho)) rfl hd (n := n) (rest := st.map (xv C)) rfl hn (by omega) (by omega) (by omega) (fun cA kA comp f1 f2 f3 f4 => ?_)
  generalize hH1 : H.push ({ cls := cA, slots := Array.replicate n.toNatClampNeg .null, vm := .none } : Cell) = H1
  have z1 : H1.size = H.size + 1 := by rw [← hH1, Array.size_push]
  have e1 : H1[H.size]? = some (arrV cA n.toNatClampNeg (fun _ => .null)) := by rw [← hH1, Array.getElem?_push_size, ← arrV_new]
  have o1 : ∀ q : Nat, q < H.size → H1[q]? = H[q]? := fun q hq => by rw [← hH1, Array.getElem?_push, if_neg (Nat.ne_of_lt hq)]
  have hcA : C.2.2.2.2.2 t = cA := by
    obtain ⟨_, _, _, _, _, h9⟩ := hA.2
    exact Option.some.inj (h9.symm.trans f1)
  have hX : xH C s (aA G t n.toNatClampNeg) (wN I (gN G)) H1 := by
    refine hH.grow z1 o1 rfl (fun b hb => aA_Tn G _ _ hb) (fun b hb => aA_Ln G _ _ hb) (fun b hb => aA_Rn G _ _ hb) (fun b hb => wN_ne I hb) ⟨fun q' hq' => ?_, fun hq' => ?_⟩
    · rw [aA_T] at hq'
      have := xcl_lt hq'
      omega
    · rw [aA_T, aA_L, hH.end, e1, hcA]
      congr 2
      funext j
      rw [xev, aA_T, if_neg (by omega), aA_R, xr_null]
  have hk := kk p e s m args below meth cd R n0 s0 H1 locs la K hX hls ⟨by rw [aA_N]; omega, by rw [aA_S]; omega, b3, b4, b5⟩
  refine W.cs (cells' := gN (aA G t n.toNatClampNeg) - n0) (slots' := gS (aA G t n.toNatClampNeg) - s0) (by rw [aA_N]; omega) (by rw [aA_S]; omega) ?_
  rw [List.map_cons, xv_ref (by have := hH.2.2.2.1; omega), hH.end] at hk
  exact hk
/-! references into arrays -/
theorem wR_ev {a t n j b : Nat} (ha : gA G a t n) (ht : 102 ≤ t) : xev C (wR G a j b) I a = updV (xev C G I a) j (xr C b) := by
  funext k
  have e1 : gT (wR G a j b) a = gT G a := rfl
  have hT : ¬ gT G a < 102 := by rw [ha.2.2.1]; omega
  unfold xev updV
  rw [e1, if_neg hT]
  by_cases h : k = j
  · subst h
    simp [gR, wR]
  · simp [gR, wR, h, hT]
theorem XW.aastore0 {a t n : Nat} {nm : String} {i : Int32} (hd : xd M.2.1 pc .aastore 1 nx) (ha : gA G a t n) (ht : xAr t = some (.object nm)) (hp : 102 ≤ t) (hi : vp_in i n) (kk : XW l C M nx ls st (wR G a i.toNatClampNeg 0) I r G' I') : XW l C M pc ls (.ref 0 :: .int i :: .ref a :: st) G I r G' I' := by
  obtain ⟨hd, rfl⟩ := hd
  intro p e s m args below meth cd R n0 s0 H locs la K hH hls hB
  have hc := hH.arr ha (by omega)
  have ha0 : a ≠ 0 := by have := ha.1; omega
  have hA := hH.1.2.1 t _ ht
  refine va_WaastN (C := nm) (j := i) K.1 K.2.1 hc (hA.1 _ _) (fun h => by cases h) (by rw [arrV_size]; exact hi) rfl (rest := st.map (xv C)) ?_ hd (fun H1 e1 z oq => kk p e s m args below meth cd R n0 s0 H1 _ la K (hH.store (G1 := wR G a i.toNatClampNeg 0) (I1 := I) ha (by omega) e1 z oq rfl (fun _ => rfl) (fun _ => rfl) (fun b hb => ?_) (fun b hb => rfl) ?_) hls ⟨hB.1, hB.2.1, hB.2.2.1, hB.2.2.2.1, xlocs hB.2.2.2.2 ha.1⟩)
  · show xv C (.ref 0) :: xv C (.int i) :: xv C (.ref a) :: _ = _
    rw [xv_ref ha0, xv_null]; rfl
  · funext k; simp [gR, wR, hb]
  · rw [wR_ev ha hp, xr_null]
theorem XW.aastore {a t n b c : Nat} {q : vw_C} {nm : String} {i : Int32} (hd : xd M.2.1 pc .aastore 1 nx) (ha : gA G a t n) (ht : xAr t = some (.object nm)) (hp : 102 ≤ t) (hi : vp_in i n) (hb : gO G b c) (hc : vwCl[c]? = some q) (hy : q.1 = nm ∨ (q.1, nm) ∈ xYes) (kk : XW l C M nx ls st (wR G a i.toNatClampNeg b) I r G' I') : XW l C M pc ls (.ref b :: .int i :: .ref a :: st) G I r G' I' := by
  obtain ⟨hd, rfl⟩ := hd
  intro p e s m args below meth cd R n0 s0 H locs la K hH hls hB
  have hcA := hH.arr ha (by omega)
  have ha0 : a ≠ 0 := by have := ha.1; omega
  have hb0 : b ≠ 0 := by have := hb.1; omega
  have hA := hH.1.2.1 t _ ht
  obtain ⟨kA, comp, k1, k2, k3, -⟩ := hA.2
  obtain ⟨cell, q1, q2, q3, q4⟩ := hH.obj hb hc
  have hcls := (hH.1.1 c q hc).2
  obtain ⟨kC, hkC, -⟩ := hcls.2
  obtain ⟨kComp, hkComp, -⟩ := Vm.findClass_spec k3
  have hasg : s.vm.assignable (C.2.2.2.2.1.1 c) comp = true := by
    rcases hy with rfl | hy
    · have : comp = C.2.2.2.2.1.1 c := Option.some.inj (k3.symm.trans hcls.1)
      rw [this]; exact va_assign hcls
    · exact vb_asgC (hH.1.2.2.2.1 (q.1, nm) hy) comp _ k3 hcls.1
  refine W.aast K.1 K.2.1 (j := i) (v := xad C b) hcA (fun q h => by cases h) (fun h => by cases h) k1 k2 rfl hkComp ⟨fun z => hi (Or.inl z), by rw [arrV_size]; exact xin_lt hi⟩ q1 (fun q h => by rw [q3] at h; cases h) (by rw [q2]; exact hkC) (by rw [q2]; exact hasg) rfl (rest := st.map (xv C)) ?_ hd (fun H1 e1 z oq => kk p e s m args below meth cd R n0 s0 H1 _ la K (hH.store (G1 := wR G a i.toNatClampNeg b) (I1 := I) ha (by omega) e1 z oq rfl (fun _ => rfl) (fun _ => rfl) (fun b hb => ?_) (fun b hb => rfl) ?_) hls ⟨hB.1, hB.2.1, hB.2.2.1, hB.2.2.2.1, xlocs hB.2.2.2.2 ha.1⟩)
  · show xv C (.ref b) :: xv C (.int i) :: xv C (.ref a) :: _ = _
    rw [xv_ref ha0, xv_ref hb0]; rfl
  · funext k; simp [gR, wR, hb]
  · rw [wR_ev ha hp, xr_ref hb0]
/-! classes of objects -/
theorem xH.recv {s : State} {H : Heap} (h : xH C s G I H) {a c : Nat} {q : vw_C} (ha : gO G a c) (hc : vwCl[c]? = some q) : ∃ cell : Cell, H[xad C a]? = some cell ∧ cell.vm.isStatics = false ∧ s.vm.findClass q.1 = some cell.cls := by
  obtain ⟨cell, q1, q2, q3, q4⟩ := h.obj ha hc
  exact ⟨cell, q1, by rw [q3]; rfl, by rw [q2]; exact (h.1.1 c q hc).2.1⟩
theorem XW.instY {a c idx : Nat} {q : vw_C} {nm : String} (hd : xd M.2.1 pc (.instanceof idx) 3 nx) (ha : gO G a c) (hc : vwCl[c]? = some q) (hl : Cond.classLink M.1.cls idx nm ∈ xtbl) (hy : q.1 = nm ∨ (q.1, nm) ∈ xYes) (kk : XW l C M nx ls (.int 1 :: st) G I r G' I') : XW l C M pc ls (.ref a :: st) G I r G' I' := by
  obtain ⟨hd, rfl⟩ := hd
  intro p e s m args below meth cd R n0 s0 H locs la K hH hls hB
  have ha0 : a ≠ 0 := by have := ha.1; omega
  have hk := kk p e s m args below meth cd R n0 s0 H locs la K hH hls hB
  rw [List.map_cons, xv_ref ha0]
  rcases hy with rfl | hy
  · exact va_instS K.1 K.2.1 K.2.2.2.2.1 (K.2.2.2.2.2.1 _ hl) (hH.1.1 c q hc).2 (hH.recv ha hc) hd hk
  · exact va_instY K.1 K.2.1 K.2.2.2.2.1 (K.2.2.2.2.2.1 _ hl) (hH.1.2.2.2.1 _ hy) (hH.recv ha hc) hd hk
theorem XW.instN {a c idx : Nat} {q : vw_C} {nm : String} (hd : xd M.2.1 pc (.instanceof idx) 3 nx) (ha : gO G a c) (hc : vwCl[c]? = some q) (hl : Cond.classLink M.1.cls idx nm ∈ xtbl) (hy : (q.1, nm) ∈ xNo) (kk : XW l C M nx ls (.int 0 :: st) G I r G' I') : XW l C M pc ls (.ref a :: st) G I r G' I' := by
  obtain ⟨hd, rfl⟩ := hd
  intro p e s m args below meth cd R n0 s0 H locs la K hH hls hB
  have ha0 : a ≠ 0 := by have := ha.1; omega
  have hk := kk p e s m args below meth cd R n0 s0 H locs la K hH hls hB
  rw [List.map_cons, xv_ref ha0]
  exact va_instNo K.1 K.2.1 K.2.2.2.2.1 (K.2.2.2.2.2.1 _ hl) (hH.1.2.2.1 _ hy) (hH.recv ha hc) hd hk
theorem XW.cast {a c idx : Nat} {q : vw_C} {nm : String} (hd : xd M.2.1 pc (.checkcast idx) 3 nx) (ha : gO G a c) (hc : vwCl[c]? = some q) (hl : Cond.classLink M.1.cls idx nm ∈ xtbl) (hy : q.1 = nm ∨ (q.1, nm) ∈ xYes) (kk : XW l C M nx ls (.ref a :: st) G I r G' I') : XW l C M pc ls (.ref a :: st) G I r G' I' := by
  obtain ⟨hd, rfl⟩ := hd
  intro p e s m args below meth cd R n0 s0 H locs la K hH hls hB
  have ha0 : a ≠ 0 := by have := ha.1; omega
  have hk := kk p e s m args below meth cd R n0 s0 H locs la K hH hls hB
  rw [List.map_cons, xv_ref ha0] at hk ⊢
  rcases hy with rfl | hy
  · exact va_castS K.1 K.2.1 K.2.2.2.2.1 (K.2.2.2.2.2.1 _ hl) (hH.1.1 c q hc).2 (hH.recv ha hc) hd hk
  · exact va_castY K.1 K.2.1 K.2.2.2.2.1 (K.2.2.2.2.2.1 _ hl) (hH.1.2.2.2.1 _ hy) (hH.recv ha hc) hd hk
/-! the script: address 1 -/
theorem XW.sload {i : Int32} (hd : xd M.2.1 pc .iaload 1 nx) (hi : vp_in i C.2.2.1) (kk : XW l C M nx ls (.int (C.2.2.2.1 i.toNatClampNeg) :: st) G I r G' I') : XW l C M pc ls (.int i :: .ref 1 :: st) G I r G' I' := by
  obtain ⟨hd, rfl⟩ := hd
  intro p e s m args below meth cd R n0 s0 H locs la K hH hls hB
  obtain ⟨scr, g1, g2, g3, g4, g5⟩ := hH.2.1
  refine W.iald K.1 K.2.1 (a := C.2.1) (j := i) g1 g2 g3 (by rw [g4]; exact hi) (g5 _ (xin_lt hi)) rfl (rest := st.map (xv C)) ?_ hd (kk p e s m args below meth cd R n0 s0 H locs la K hH hls hB)
  show xv C (.int i) :: xv C (.ref 1) :: _ = _
  rw [xv_ref (by omega)]; rfl
theorem XW.slen {v : Int32} (hd : xd M.2.1 pc .arraylength 1 nx) (hv : Int32.ofNat C.2.2.1 = v) (kk : XW l C M nx ls (.int v :: st) G I r G' I') : XW l C M pc ls (.ref 1 :: st) G I r G' I' := by
  obtain ⟨hd, rfl⟩ := hd
  intro p e s m args below meth cd R n0 s0 H locs la K hH hls hB
  obtain ⟨scr, g1, g2, g3, g4, g5⟩ := hH.2.1
  refine W.alen K.1 K.2.1 (a := C.2.1) g1 g2 (n := v) (by rw [g4]; exact hv) rfl (rest := st.map (xv C)) ?_ hd (kk p e s m args below meth cd R n0 s0 H locs la K hH hls hB)
  show xv C (.ref 1) :: _ = _
  rw [xv_ref (by omega)]; rfl
/-! returns -/
theorem XW.iret {v : Int32} {ty : FieldType} (hd : xd M.2.1 pc .ireturn 1 nx) (hr : M.2.2.2.1 = some ty) (hn : narrow ty (.int v) = .int v) (e1 : r = some (.int v)) (e2 : G' = G) (e3 : I' = I) : XW l C M pc ls [.int v] G I r G' I' := by
  subst e1; subst e2; subst e3
  intro p e s m args below meth cd R n0 s0 H locs la K hH hls hB
  obtain ⟨b1, b2, b3, b4, b5⟩ := hB
  have hlk := K.2.2.2.2.2.2.1
  refine W.widen (k := R.cells) (n := R.slots) b3 b4 ?_
  exact W.zret (ty := ty) K.1 K.2.1 (K.2.2.1.trans hr) hn (fun t ht hW => ⟨rfl, by rw [ht]; exact hH.moved hW⟩) b5 hd.1
theorem XW.vret (hd : xd M.2.1 pc .return_ 1 nx) (hr : M.2.2.2.1 = none) (e1 : r = none) (e2 : G' = G) (e3 : I' = I) : XW l C M pc ls [] G I r G' I' := by
  subst e1; subst e2; subst e3
  intro p e s m args below meth cd R n0 s0 H locs la K hH hls hB
  obtain ⟨b1, b2, b3, b4, b5⟩ := hB
  have hlk := K.2.2.2.2.2.2.1
  refine W.widen (k := R.cells) (n := R.slots) b3 b4 ?_
  exact W.vret K.1 K.2.1 (K.2.2.1.trans hr) (fun t ht hW => ⟨rfl, by rw [ht]; exact hH.moved hW⟩) b5 hd.1
theorem XW.aret {a : Nat} {ty : FieldType} (hd : xd M.2.1 pc .areturn 1 nx) (hr : M.2.2.2.1 = some ty) (hn : (∃ n, ty = .object n) ∨ ∃ t, ty = .array t) (e1 : r = some (.ref a)) (e2 : G' = G) (e3 : I' = I) : XW l C M pc ls [.ref a] G I r G' I' := by
  subst e1; subst e2; subst e3
  intro p e s m args below meth cd R n0 s0 H locs la K hH hls hB
  obtain ⟨b1, b2, b3, b4, b5⟩ := hB
  have hlk := K.2.2.2.2.2.2.1
  refine W.widen (k := R.cells) (n := R.slots) b3 b4 ?_
  refine W.aret (v := xv C (.ref a)) K.1 K.2.1 (K.2.2.1.trans hr) hn ?_ (fun t ht hW => ⟨rfl, by rw [ht]; exact hH.moved hW⟩) b5 hd.1
  by_cases h : a = 0
  · subst h; exact Or.inl xv_null
  · exact Or.inr ⟨_, xv_ref h⟩
end XMAKE
end
section
/-! a method's run as a contract, and calls -/
def xrm (k mc ms : Nat) : Room := { frames := k, cells := mc, slots := ms, locals := 37 * k }
def xws (M : xM) : List Cond := Cond.code M.1 M.2.1 M.2.2.1 M.2.2.2.1 :: xtbl
def xPc (C : xC) (As : List Value) (G : xG) (I : xI) : Array Value → State → Prop := fun v U => v = (As.map (xv C)).toArray ∧ xH C U G I U.heap
theorem xPc_blind (C : xC) (As : List Value) (G : xG) (I : xI) : FrameBlind (xPc C As G I) := fun a U g mk h => ⟨h.1, xH.same (s := U) (t := U.calling g mk a) rfl h.2⟩
/-- the locals at a method's entry -/
def xent (M : xM) (As : List Value) : List (Option Value) := As.map some ++ List.replicate (M.2.2.1 - As.length) none
theorem lv_args_mem (vs : List Value) (hc : ∀ v ∈ vs, v.category = 1) : ∀ (i k : Nat) (v : Value), vs[k]? = some v → (i + k, v) ∈ lv_args i vs := by
  induction vs with
  | nil => intro i k v h; simp at h
  | cons w vs ih =>
    intro i k v h
    have hw : ¬ w.category = 2 := by rw [hc w List.mem_cons_self]; decide
    unfold lv_args
    rw [if_neg hw]
    cases k with
    | zero =>
      simp at h
      subst h
      exact List.mem_cons_self
    | succ k =>
      have h' : vs[k]? = some v := by simpa using h
      have := ih (fun v hv => hc v (List.mem_cons_of_mem _ hv)) (i + 1) k v h'
      rw [show i + (k + 1) = i + 1 + k by omega]
      exact List.mem_cons_of_mem _ this
theorem lg_sl_len (vs : List Value) (hc : ∀ v ∈ vs, v.category = 1) : (lg_sl vs).length = vs.length := by
  induction vs with
  | nil => rfl
  | cons w vs ih =>
    have hw : ¬ w.category = 2 := by rw [hc w List.mem_cons_self]; decide
    have := ih (fun v hv => hc v (List.mem_cons_of_mem _ hv))
    unfold lg_sl at this ⊢
    simp [hw] at this ⊢
    omega
theorem xls_entry {C : xC} {M : xM} {As : List Value} (hc : ∀ v ∈ As, v.category = 1) (hn : As.length ≤ M.2.2.1) :
    xls C M.2.2.1 (xent M As) ((lg_sl (As.map (xv C)) ++ List.replicate (M.2.2.1 - (lg_sl (As.map (xv C))).length) Slot.unset).toArray) := by
  have hc2 : ∀ v ∈ As.map (xv C), v.category = 1 := by
    intro v hv
    obtain ⟨w, hw, rfl⟩ := List.mem_map.mp hv
    rw [xv_cat]; exact hc w hw
  have hl : (lg_sl (As.map (xv C))).length = As.length := by rw [lg_sl_len _ hc2, List.length_map]
  have h1 := lv_entry (As.map (xv C)) (n := M.2.2.1) (by rw [hl]; exact hn)
  have key : ∀ (k : Nat) (v : Value), (xent M As)[k]? = some (some v) → As[k]? = some v := by
    intro k v h
    unfold xent at h
    by_cases hk : k < As.length
    · rw [List.getElem?_append_left (by simpa using hk), List.getElem?_map] at h
      cases hq : As[k]? with
      | none => rw [hq] at h; simp at h
      | some w => rw [hq] at h; simp at h; rw [h]
    · rw [List.getElem?_append_right (by simpa using hk)] at h
      have := List.eq_of_mem_replicate (List.mem_of_getElem? h)
      cases this
  refine ⟨⟨h1.1, h1.2.1, fun q hq => ?_⟩, by simp [xent]; omega, fun v hv => ?_⟩
  · obtain ⟨v, hv, e⟩ := xlv_of hq
    have h3 := lv_args_mem _ hc2 0 q.1 (xv C v) (by rw [List.getElem?_map, key _ _ hv]; rfl)
    have h4 := h1.2.2 _ h3
    rw [e]
    rw [Nat.zero_add] at h4
    exact h4
  · obtain ⟨k, hk⟩ := List.getElem?_of_mem hv
    exact hc v (List.mem_of_getElem? (key k v hk))
/-- what a method must be, to be called: its code is among the words, .. -/
def xOk (M : xM) (n : Nat) : Prop := Cond.code M.1 M.2.1 M.2.2.1 M.2.2.2.1 ∈ xtbl ∧ Cond.initialized M.1.cls ∈ xtbl ∧ (M.1.cls ≠ "java/lang/invoke/MethodHandle" ∧ M.1.cls ≠ "java/lang/invoke/VarHandle" ∧ (parseMethodDescriptor M.1.desc).map (fun d => d.parameters.length) = some n) ∧ plainName M.1.cls = true ∧ M.2.2.1 ≤ 18
theorem xGoodIn {M : xM} {n : Nat} (h : xOk M n) : GoodIn xtbl (xws M) := by
  intro w hw
  rcases List.mem_cons.mp hw with rfl | hw
  · exact ⟨h.1, xGood _ h.1⟩
  · exact ⟨hw, xGood w hw⟩
section XMET
variable {l : Launch} {C : xC} {M M2 : xM} {pc nx : Nat} {ls ls' : List (Option Value)} {st stk : List Value} {G G' G1 : xG} {I I' I1 : xI} {r r1 : Option Value}
theorem XW.met {As : List Value} {n : Nat} (hp : xOk M n) (hc : ∀ v ∈ As, v.category = 1) (hn : As.length ≤ M.2.2.1) (h : XW l C M 0 (xent M As) [] G I r G1 I1) :
    Met l M.1 (xws M) (xrm M.2.2.2.2 (gN G1 - gN G) (gS G1 - gS G)) (xPc C As G I) (xQc C r G1 I1) (gN G1 - gN G) (gS G1 - gS G) (fun q => C.1 ≤ q) := by
  refine Met.ofW (cc := M.2.1) (maxL := M.2.2.1) (ret := M.2.2.2.1) hp.2.2.2.1 rfl ?_
  intro p e s m args below meth c s₁ B hml hv
  obtain ⟨rfl, hH⟩ := hv
  have hts := atoms_spec (ws := xws M) B.pre
  have K : xK M p s m (As.map (xv C)).toArray meth c (xrm M.2.2.2.2 (gN G1 - gN G) (gS G1 - gS G)) :=
    ⟨B.exec, B.bytes, B.returns, hml, findClass_of_methodNamed B.named, fun w hw => hts w (List.mem_cons_of_mem _ hw), B.notSynchronized, fun hi => (name_of_methodNamed B.named B.method).1.trans hi, Nat.le_refl _, Nat.le_refl _⟩
  have h1 := h p e s m _ below meth c _ (gN G) (gS G) s.heap [] _ K hH (xls_entry hc hn) ⟨Nat.le_refl _, Nat.le_refl _, Nat.le_refl _, Nat.le_refl _, fun q hq => by cases hq⟩
  rw [Nat.sub_self, Nat.sub_self] at h1
  rw [lg_entry_eq]
  exact h1
/-- behind a call -/
theorem xcallW {p : Program} {e : Env} {s : State} {m : MethodId} {args a : Array Value} {below : List Frame} {meth : Method} {c : Code} {R : Room} {n0 s0 mc ms : Nat} {H : Heap} {locs : List Loc} {la : Array Slot} {st0 rest : List Value} (hr : va_Run p l e R s m args below meth c H locs (gN G - n0) (gS G - s0) mc ms (F0 m pc la st0) rest (xQc C r1 G1 I1 a) (fun q => C.1 ≤ q))
    (hH : xH C s G I H) (hn : mc = gN G1 - gN G ∧ ms = gS G1 - gS G) (hN : gN G ≤ gN G1 ∧ gS G ≤ gS G1) (hB : n0 ≤ gN G ∧ s0 ≤ gS G ∧ ∀ q ∈ locs, C.1 ≤ q.base) {Q : State → Prop}
    (kk : ∀ (H1 : Heap) (locs1 : List Loc), xH C s G1 I1 H1 → (∀ q ∈ locs1, C.1 ≤ q.base) → W p l e R s m args below meth c H1 locs1 (gN G1 - n0) (gS G1 - s0) Q (F0 m (pc + 3) la ((r1.map (xv C)).toList ++ rest))) :
    W p l e R s m args below meth c H locs (gN G - n0) (gS G - s0) Q (F0 m pc la st0) := by
  intro T hT X
  obtain ⟨v, st₀, t, T', L, h0, X', hL, e1, e2, ⟨hv, hq⟩, st⟩ := hr T hT X
  cases hv
  have hal : s.vm.Alike t.vm := by rw [← e2]; exact X'.warmed.alike
  have hx : xH C s G1 I1 T'.heap := by
    rw [e1]
    exact ⟨hH.1, hq.2.1.moved hal.symm, hq.2.2⟩
  have hl2 : ∀ q ∈ locs ++ L, C.1 ≤ q.base := by
    intro q hq
    rcases List.mem_append.mp hq with h | h
    · exact hB.2.2 q h
    · exact hL q h
  obtain ⟨c1, c2⟩ := hn
  have ec : gN G - n0 + mc = gN G1 - n0 := by omega
  have es : gS G - s0 + ms = gS G1 - s0 := by omega
  rw [ec, es] at X'
  obtain ⟨t2, a1, b1⟩ := kk T'.heap (locs ++ L) hx hl2 T' rfl X'
  exact ⟨t2, st t2 a1, b1⟩
/-- the numbers of a call: the callee's rank, the room, what lies below on the stack -/
def xNum (M M2 : xM) (As st : List Value) (G G1 G' : xG) (n : Nat) : Prop := M2.2.2.2.2 + 1 ≤ M.2.2.2.2 ∧ As.length = n ∧ As.length ≤ M2.2.2.1 ∧ (∀ v ∈ As, v.category = 1) ∧ (st.map fun v => v.category).sum ≤ 8 ∧ gN G ≤ gN G1 ∧ gS G ≤ gS G1 ∧ gN G1 ≤ gN G' ∧ gS G1 ≤ gS G'
theorem xsum (C : xC) (st : List Value) : ((st.map (xv C)).map fun v => v.category).sum = (st.map fun v => v.category).sum := by
  rw [List.map_map]
  congr 1
  exact List.map_congr_left fun v _ => xv_cat C v
theorem xtoList (C : xC) (r : Option Value) (st : List Value) : (r.map (xv C)).toList ++ st.map (xv C) = (r.toList ++ st).map (xv C) := by
  cases r <;> rfl
theorem xroomOk {R : Room} (h1 : M2.2.2.2.2 + 1 ≤ M.2.2.2.2) (hf : M.2.2.2.2 ≤ R.frames) (hl : 37 * M.2.2.2.2 ≤ R.locals) (hm : M2.2.2.1 ≤ 18) (mc ms : Nat) : (xrm M2.2.2.2.2 mc ms).frames + 1 ≤ R.frames ∧ 8 + (M2.2.2.1 + 11) + (xrm M2.2.2.2.2 mc ms).locals ≤ R.locals := by
  constructor
  · show M2.2.2.2.2 + 1 ≤ _
    omega
  · show 8 + (M2.2.2.1 + 11) + 37 * M2.2.2.2.2 ≤ _
    omega
/-- a virtual call of the receiver's own method -/
def xCV (own : String) (idx c : Nat) (M2 : xM) : Prop := ∃ q : vw_C, vwCl[c]? = some q ∧ M2.1.cls = q.1 ∧ Cond.methodLink own idx M2.1 ∈ xtbl ∧ Cond.instanceMethod M2.1 ∈ xtbl ∧ Cond.selects q.1 M2.1 M2.1 ∈ xtbl
theorem XW.callV {idx a c n : Nat} {As : List Value} (hd : xd M.2.1 pc (.invokevirtual idx) 3 nx) (hok : xOk M2 n) (hcv : xCV M.1.cls idx c M2) (hs : stk = As.reverse ++ .ref a :: st) (ha : gO G a c) (hY : XW l C M2 0 (xent M2 (.ref a :: As)) [] G I r1 G1 I1) (hnum : xNum M M2 (.ref a :: As) st G G1 G' (n + 1)) (kk : XW l C M nx ls (r1.toList ++ st) G1 I1 r G' I') : XW l C M pc ls stk G I r G' I' := by
  obtain ⟨hd, rfl⟩ := hd
  subst hs
  obtain ⟨q, hc, hcl, hl1, hl2, hl3⟩ := hcv
  obtain ⟨u1, u2, u3, u4, u5, u6, u7, u8, u9⟩ := hnum
  intro p e s m args below meth cd R n0 s0 H locs la K hH hls hB
  obtain ⟨b1, b2, b3, b4, b5⟩ := hB
  have hts := K.2.2.2.2.2.1
  have ha0 : a ≠ 0 := by have := ha.1; omega
  have hmet := hY.met hok u4 u3
  have hG : GoodIn xtbl (wsV M.1.cls idx q.1 M2.1 (xws M2)) := by
    intro w hw
    rcases List.mem_append.mp hw with hw | hw
    · have : w ∈ xtbl := by
        rcases List.mem_cons.mp hw with rfl | hw
        · exact hl1
        rcases List.mem_cons.mp hw with rfl | hw
        · exact hl2
        rcases List.mem_cons.mp hw with rfl | hw
        · exact hl3
        rw [List.mem_singleton.mp hw, ← hcl]
        exact hok.2.1
      exact ⟨this, xGood w this⟩
    · exact xGoodIn hok w hw
  have cw := cwV (R := R) (rm := xrm M2.2.2.2.2 (gN G1 - gN G) (gS G1 - gS G)) n hts hG rfl rfl rfl ⟨hcl, hok.2.2.1⟩ (xroomOk u1 K.2.2.2.2.2.2.2.2.1 K.2.2.2.2.2.2.2.2.2 hok.2.2.2.2 _ _)
  have hrun := va_runV (C := q.1) (b := xad C a) (As := As.map (xv C)) (rest := st.map (xv C)) (g := F0 m pc la ((As.reverse ++ .ref a :: st).map (xv C))) (H := H) (locs := locs) (cells := gN G - n0) (slots := gS G - s0) (meth := meth) (below := below) (e := e)
    ⟨K.1, K.2.1, K.2.2.2.1, K.2.2.2.2.1, hts⟩ hmet cw
    ⟨xPc_blind C _ G I, hH.recv ha hc, fun U hU hW => ⟨by rw [List.map_cons, xv_ref ha0], by rw [hU]; exact hH.moved hW⟩⟩
    rfl (by rw [List.length_map]; simpa using u2) hls.1.1 (by simp [xv_ref ha0]) (by show 2 * 0 + _ ≤ 8; rw [xsum]; omega) hd ⟨by omega, by omega⟩
  have h9 : xQc C r1 G1 I1 ((Value.ref (xad C a) :: As.map (xv C)).toArray) = xQc C r1 G1 I1 ((Value.ref (xad C a) :: As.map (xv C)).toArray) := rfl
  refine xcallW hrun hH ⟨rfl, rfl⟩ ⟨u6, u7⟩ ⟨b1, b2, b5⟩ (fun H1 locs1 hx hl => ?_)
  rw [xtoList]
  exact kk p e s m args below meth cd R n0 s0 H1 locs1 la K hx hls ⟨by omega, by omega, b3, b4, hl⟩
/-- a virtual call that may come to a method of a class below: x as named, M2 as chosen -/
def xCO (own : String) (idx c : Nat) (x : MethodName) (M2 : xM) : Prop := ∃ q : vw_C, vwCl[c]? = some q ∧ Cond.methodLink own idx x ∈ xtbl ∧ Cond.sameMethod x.cls x.cls x.name x.desc ∈ xtbl ∧ Cond.instanceMethod x ∈ xtbl ∧ Cond.selects q.1 x M2.1 ∈ xtbl ∧ Cond.instanceMethod M2.1 ∈ xtbl ∧ (∃ b m r, Cond.code x b m r ∈ xtbl) ∧ (x.cls ≠ "java/lang/invoke/MethodHandle" ∧ x.cls ≠ "java/lang/invoke/VarHandle") ∧ x.desc = M2.1.desc
theorem XW.callO {idx a c n : Nat} {x : MethodName} {As : List Value} (hd : xd M.2.1 pc (.invokevirtual idx) 3 nx) (hok : xOk M2 n) (hcv : xCO M.1.cls idx c x M2) (hs : stk = As.reverse ++ .ref a :: st) (ha : gO G a c) (hY : XW l C M2 0 (xent M2 (.ref a :: As)) [] G I r1 G1 I1) (hnum : xNum M M2 (.ref a :: As) st G G1 G' (n + 1)) (kk : XW l C M nx ls (r1.toList ++ st) G1 I1 r G' I') : XW l C M pc ls stk G I r G' I' := by
  obtain ⟨hd, rfl⟩ := hd
  subst hs
  obtain ⟨q, hc, hl1, hl2, hl3, hl4, hl5, ⟨cb, cm, cr, hl6⟩, hx1, hx2⟩ := hcv
  obtain ⟨u1, u2, u3, u4, u5, u6, u7, u8, u9⟩ := hnum
  intro p e s m args below meth cd R n0 s0 H locs la K hH hls hB
  obtain ⟨b1, b2, b3, b4, b5⟩ := hB
  have hts := K.2.2.2.2.2.1
  have ha0 : a ≠ 0 := by have := ha.1; omega
  have hmet := hY.met hok u4 u3
  have hG : GoodIn xtbl (va_wsO M.1.cls idx q.1 x.cls x M2.1 (xws M2)) := by
    intro w hw
    rcases List.mem_append.mp hw with hw | hw
    · have : w ∈ xtbl := by
        rcases List.mem_cons.mp hw with rfl | hw
        · exact hl1
        rcases List.mem_cons.mp hw with rfl | hw
        · exact hl2
        rcases List.mem_cons.mp hw with rfl | hw
        · exact hl3
        rcases List.mem_cons.mp hw with rfl | hw
        · exact hl4
        rcases List.mem_cons.mp hw with rfl | hw
        · exact hl5
        rw [List.mem_singleton.mp hw]
        exact hok.2.1
      exact ⟨this, xGood w this⟩
    · exact xGoodIn hok w hw
  have cw := va_cwO (R := R) (rm := xrm M2.2.2.2.2 (gN G1 - gN G) (gS G1 - gS G)) n hts hG rfl rfl rfl (h0 := hl6) ⟨hx1.1, hx1.2, by rw [hx2]; exact hok.2.2.1.2.2⟩ (xroomOk u1 K.2.2.2.2.2.2.2.2.1 K.2.2.2.2.2.2.2.2.2 hok.2.2.2.2 _ _)
  have hrun := va_runU (C := q.1) (b := xad C a) (As := As.map (xv C)) (rest := st.map (xv C)) (g := F0 m pc la ((As.reverse ++ .ref a :: st).map (xv C))) (H := H) (locs := locs) (cells := gN G - n0) (slots := gS G - s0) (meth := meth) (below := below) (e := e)
    ⟨K.1, K.2.1, K.2.2.2.1, K.2.2.2.2.1, hts⟩ hmet cw
    ⟨xPc_blind C _ G I, hH.recv ha hc, fun U hU hW => ⟨by rw [List.map_cons, xv_ref ha0], by rw [hU]; exact hH.moved hW⟩⟩
    rfl (by rw [List.length_map]; simpa using u2) hls.1.1 (by simp [xv_ref ha0]) (by show 2 * 0 + _ ≤ 8; rw [xsum]; omega) hd ⟨by omega, by omega⟩
  refine xcallW hrun hH ⟨rfl, rfl⟩ ⟨u6, u7⟩ ⟨b1, b2, b5⟩ (fun H1 locs1 hx hl => ?_)
  rw [xtoList]
  exact kk p e s m args below meth cd R n0 s0 H1 locs1 la K hx hls ⟨by omega, by omega, b3, b4, hl⟩
/-- a static call -/
def xCS (own : String) (idx : Nat) (M2 : xM) : Prop := Cond.methodLink own idx M2.1 ∈ xtbl ∧ Cond.static M2.1 ∈ xtbl
theorem XW.callS {idx n : Nat} {As : List Value} (hd : xd M.2.1 pc (.invokestatic idx) 3 nx) (hok : xOk M2 n) (hcv : xCS M.1.cls idx M2) (hs : stk = As.reverse ++ st) (hY : XW l C M2 0 (xent M2 As) [] G I r1 G1 I1) (hnum : xNum M M2 As st G G1 G' n) (kk : XW l C M nx ls (r1.toList ++ st) G1 I1 r G' I') : XW l C M pc ls stk G I r G' I' := by
  obtain ⟨hd, rfl⟩ := hd
  subst hs
  obtain ⟨hl1, hl2⟩ := hcv
  obtain ⟨u1, u2, u3, u4, u5, u6, u7, u8, u9⟩ := hnum
  intro p e s m args below meth cd R n0 s0 H locs la K hH hls hB
  obtain ⟨b1, b2, b3, b4, b5⟩ := hB
  have hts := K.2.2.2.2.2.1
  have hmet := hY.met hok u4 u3
  have cw := callB_of (R := R) (rm := xrm M2.2.2.2.2 (gN G1 - gN G) (gS G1 - gS G)) (own := M.1.cls) (index := idx) n hts (xGoodIn hok) rfl rfl rfl (hts _ hok.2.1) (hts _ hl1) hok.2.2.1 (xroomOk u1 K.2.2.2.2.2.2.2.2.1 K.2.2.2.2.2.2.2.2.2 hok.2.2.2.2 _ _)
  have hrun := va_runS (As := As.map (xv C)) (rest := st.map (xv C)) (g := F0 m pc la ((As.reverse ++ st).map (xv C))) (H := H) (locs := locs) (cells := gN G - n0) (slots := gS G - s0) (meth := meth) (below := below) (e := e)
    ⟨K.1, K.2.1, K.2.2.2.1, K.2.2.2.2.1, hts⟩ hmet ⟨cw, hts _ hl2⟩
    ⟨xPc_blind C _ G I, fun U hU hW => ⟨rfl, by rw [hU]; exact hH.moved hW⟩⟩
    rfl (by rw [List.length_map]; exact u2) hls.1.1 (by simp) (by show 2 * 0 + _ ≤ 8; rw [xsum]; omega) hd ⟨by omega, by omega⟩
  refine xcallW hrun hH ⟨rfl, rfl⟩ ⟨u6, u7⟩ ⟨b1, b2, b5⟩ (fun H1 locs1 hx hl => ?_)
  rw [xtoList]
  exact kk p e s m args below meth cd R n0 s0 H1 locs1 la K hx hls ⟨by omega, by omega, b3, b4, hl⟩
/-- a static call to a nest mate's private method -/
theorem XW.callSN {idx n : Nat} {host : String} {As : List Value} (hd : xd M.2.1 pc (.invokestatic idx) 3 nx) (hok : xOk M2 n) (hcv : (M.1.cls, idx, M2.1, host) ∈ xNest ∧ Cond.static M2.1 ∈ xtbl) (hs : stk = As.reverse ++ st) (hY : XW l C M2 0 (xent M2 As) [] G I r1 G1 I1) (hnum : xNum M M2 As st G G1 G' n) (kk : XW l C M nx ls (r1.toList ++ st) G1 I1 r G' I') : XW l C M pc ls stk G I r G' I' := by
  obtain ⟨hd, rfl⟩ := hd
  subst hs
  obtain ⟨hl1, hl2⟩ := hcv
  obtain ⟨u1, u2, u3, u4, u5, u6, u7, u8, u9⟩ := hnum
  intro p e s m args below meth cd R n0 s0 H locs la K hH hls hB
  obtain ⟨b1, b2, b3, b4, b5⟩ := hB
  have hts := K.2.2.2.2.2.1
  have hmet := hY.met hok u4 u3
  have cw := va_cnB (R := R) (rm := xrm M2.2.2.2.2 (gN G1 - gN G) (gS G1 - gS G)) (own := M.1.cls) (index := idx) (host := host) n hts (xGoodIn hok) rfl rfl rfl (hH.1.2.2.2.2.2 _ hl1) (hts _ hok.2.1) hok.2.2.1 (xroomOk u1 K.2.2.2.2.2.2.2.2.1 K.2.2.2.2.2.2.2.2.2 hok.2.2.2.2 _ _)
  have hrun := va_runSN (As := As.map (xv C)) (rest := st.map (xv C)) (g := F0 m pc la ((As.reverse ++ st).map (xv C))) (H := H) (locs := locs) (cells := gN G - n0) (slots := gS G - s0) (meth := meth) (below := below) (e := e)
    ⟨K.1, K.2.1, K.2.2.2.1, K.2.2.2.2.1, hts⟩ hmet ⟨cw, hts _ hl2, trivial⟩
    ⟨xPc_blind C _ G I, fun U hU hW => ⟨rfl, by rw [hU]; exact hH.moved hW⟩⟩
    rfl (by rw [List.length_map]; exact u2) hls.1.1 (by simp) (by show 2 * 0 + _ ≤ 8; rw [xsum]; omega) hd ⟨by omega, by omega⟩
  refine xcallW hrun hH ⟨rfl, rfl⟩ ⟨u6, u7⟩ ⟨b1, b2, b5⟩ (fun H1 locs1 hx hl => ?_)
  rw [xtoList]
  exact kk p e s m args below meth cd R n0 s0 H1 locs1 la K hx hls ⟨by omega, by omega, b3, b4, hl⟩
/-- a constructor -/
def xCI (own : String) (idx : Nat) (M2 : xM) : Prop := Cond.methodLink own idx M2.1 ∈ xtbl ∧ Cond.instanceMethod M2.1 ∈ xtbl ∧ M2.1.name = "<init>" ∧ M2.2.2.2.1 = none
theorem XW.callI {idx a n : Nat} {As : List Value} (hd : xd M.2.1 pc (.invokespecial idx) 3 nx) (hok : xOk M2 n) (hcv : xCI M.1.cls idx M2) (hs : stk = As.reverse ++ .ref a :: st) (ha0 : a ≠ 0) (hY : XW l C M2 0 (xent M2 (.ref a :: As)) [] G I r1 G1 I1) (hnum : xNum M M2 (.ref a :: As) st G G1 G' (n + 1)) (kk : XW l C M nx ls (r1.toList ++ st) G1 I1 r G' I') : XW l C M pc ls stk G I r G' I' := by
  obtain ⟨hd, rfl⟩ := hd
  subst hs
  obtain ⟨hl1, hl2, hl3, hl4⟩ := hcv
  obtain ⟨u1, u2, u3, u4, u5, u6, u7, u8, u9⟩ := hnum
  intro p e s m args below meth cd R n0 s0 H locs la K hH hls hB
  obtain ⟨b1, b2, b3, b4, b5⟩ := hB
  have hts := K.2.2.2.2.2.1
  have hmet := hY.met hok u4 u3
  have cw := callB_of (R := R) (rm := xrm M2.2.2.2.2 (gN G1 - gN G) (gS G1 - gS G)) (own := M.1.cls) (index := idx) n hts (xGoodIn hok) rfl rfl rfl (hts _ hok.2.1) (hts _ hl1) hok.2.2.1 (xroomOk u1 K.2.2.2.2.2.2.2.2.1 K.2.2.2.2.2.2.2.2.2 hok.2.2.2.2 _ _)
  rw [hl4] at cw
  have hrun := va_runI (b := xad C a) (As := As.map (xv C)) (rest := st.map (xv C)) (g := F0 m pc la ((As.reverse ++ .ref a :: st).map (xv C))) (H := H) (locs := locs) (cells := gN G - n0) (slots := gS G - s0) (meth := meth) (below := below) (e := e)
    ⟨K.1, K.2.1, K.2.2.2.1, K.2.2.2.2.1, hts⟩ hmet ⟨cw, hl3, hts _ hl2⟩
    ⟨xPc_blind C _ G I, fun U hU hW => ⟨by rw [List.map_cons, xv_ref ha0], by rw [hU]; exact hH.moved hW⟩⟩
    rfl (by rw [List.length_map]; simpa using u2) hls.1.1 (by simp [xv_ref ha0]) (by show 2 * 0 + _ ≤ 8; rw [xsum]; omega) hd ⟨by omega, by omega⟩
  refine xcallW hrun hH ⟨rfl, rfl⟩ ⟨u6, u7⟩ ⟨b1, b2, b5⟩ (fun H1 locs1 hx hl => ?_)
  rw [xtoList]
  exact kk p e s m args below meth cd R n0 s0 H1 locs1 la K hx hls ⟨by omega, by omega, b3, b4, hl⟩
theorem XW.callIN {idx a n : Nat} {host : String} {As : List Value} (hd : xd M.2.1 pc (.invokespecial idx) 3 nx) (hok : xOk M2 n) (hcv : (M.1.cls, idx, M2.1, host) ∈ xNest ∧ Cond.instanceMethod M2.1 ∈ xtbl ∧ M2.1.name = "<init>" ∧ M2.2.2.2.1 = none) (hs : stk = As.reverse ++ .ref a :: st) (ha0 : a ≠ 0) (hY : XW l C M2 0 (xent M2 (.ref a :: As)) [] G I r1 G1 I1) (hnum : xNum M M2 (.ref a :: As) st G G1 G' (n + 1)) (kk : XW l C M nx ls (r1.toList ++ st) G1 I1 r G' I') : XW l C M pc ls stk G I r G' I' := by
  obtain ⟨hd, rfl⟩ := hd
  subst hs
  obtain ⟨hl1, hl2, hl3, hl4⟩ := hcv
  obtain ⟨u1, u2, u3, u4, u5, u6, u7, u8, u9⟩ := hnum
  intro p e s m args below meth cd R n0 s0 H locs la K hH hls hB
  obtain ⟨b1, b2, b3, b4, b5⟩ := hB
  have hts := K.2.2.2.2.2.1
  have hmet := hY.met hok u4 u3
  have cw := va_cnB (R := R) (rm := xrm M2.2.2.2.2 (gN G1 - gN G) (gS G1 - gS G)) (own := M.1.cls) (index := idx) (host := host) n hts (xGoodIn hok) rfl rfl rfl (hH.1.2.2.2.2.2 _ hl1) (hts _ hok.2.1) hok.2.2.1 (xroomOk u1 K.2.2.2.2.2.2.2.2.1 K.2.2.2.2.2.2.2.2.2 hok.2.2.2.2 _ _)
  rw [hl4] at cw
  have hrun := va_runIN (b := xad C a) (As := As.map (xv C)) (rest := st.map (xv C)) (g := F0 m pc la ((As.reverse ++ .ref a :: st).map (xv C))) (H := H) (locs := locs) (cells := gN G - n0) (slots := gS G - s0) (meth := meth) (below := below) (e := e)
    ⟨K.1, K.2.1, K.2.2.2.1, K.2.2.2.2.1, hts⟩ hmet ⟨cw, hl3, hts _ hl2⟩
    ⟨xPc_blind C _ G I, fun U hU hW => ⟨by rw [List.map_cons, xv_ref ha0], by rw [hU]; exact hH.moved hW⟩⟩
    rfl (by rw [List.length_map]; simpa using u2) hls.1.1 (by simp [xv_ref ha0]) (by show 2 * 0 + _ ≤ 8; rw [xsum]; omega) hd ⟨by omega, by omega⟩
  refine xcallW hrun hH ⟨rfl, rfl⟩ ⟨u6, u7⟩ ⟨b1, b2, b5⟩ (fun H1 locs1 hx hl => ?_)
  rw [xtoList]
  exact kk p e s m args below meth cd R n0 s0 H1 locs1 la K hx hls ⟨by omega, by omega, b3, b4, hl⟩
/-! Object.<init>, Math.max -/
theorem xw_oi : Cond.instanceMethod Lib.objectInit ∈ xtbl := by decide +kernel
theorem xw_oc : Cond.code Lib.objectInit ⟨#[0xb1]⟩ 1 none ∈ xtbl := by decide +kernel
theorem XW.objInit {idx a : Nat} (hd : xd M.2.1 pc (.invokespecial idx) 3 nx) (hl : Cond.methodLink M.1.cls idx Lib.objectInit ∈ xtbl) (ha0 : a ≠ 0) (hst : (st.map fun v => v.category).sum ≤ 8) (hrk : 1 ≤ M.2.2.2.2) (kk : XW l C M nx ls st G I r G' I') : XW l C M pc ls (.ref a :: st) G I r G' I' := by
  obtain ⟨hd, rfl⟩ := hd
  intro p e s m args below meth cd R n0 s0 H locs la K hH hls hB
  have hts := K.2.2.2.2.2.1
  have k1 := K.2.2.2.2.2.2.2.2.1
  have k2 := K.2.2.2.2.2.2.2.2.2
  refine W.objInit K.1 K.2.1 K.2.2.2.2.1 (hts _ hl) (hts _ xw_oi) (hts _ xw_oc) rfl (a := xad C a) (rest := st.map (xv C)) ?_ ?_ hd (by omega) ?_ (kk p e s m args below meth cd R n0 s0 H locs la K hH hls hB)
  · rw [K.2.2.2.1]; exact hls.1.1
  · show xv C (.ref a) :: _ = _
    rw [xv_ref ha0]
  · show 2 * 0 + _ + 12 ≤ _
    rw [xsum]; omega
theorem xw_ms : Cond.static Lib.Math.max.name ∈ xtbl := by decide +kernel
theorem xw_mi : Cond.initialized "java/lang/Math" ∈ xtbl := by decide +kernel
theorem xw_mc : Cond.code Lib.Math.max.name Lib.Math.max.code 2 (some .int) ∈ xtbl := by decide +kernel
theorem XW.mmax {idx : Nat} {x y : Int32} (hd : xd M.2.1 pc (.invokestatic idx) 3 nx) (hl : Cond.methodLink M.1.cls idx Lib.Math.max.name ∈ xtbl) (hst : (st.map fun v => v.category).sum ≤ 8) (hrk : 1 ≤ M.2.2.2.2) (hG : gN G ≤ gN G' ∧ gS G ≤ gS G') (kk : XW l C M nx ls (.int (if x < y then y else x) :: st) G I r G' I') : XW l C M pc ls (.int y :: .int x :: st) G I r G' I' := by
  obtain ⟨hd, rfl⟩ := hd
  intro p e s m args below meth cd R n0 s0 H locs la K hH hls hB
  have hts := K.2.2.2.2.2.1
  have k1 := K.2.2.2.2.2.2.2.2.1
  have k2 := K.2.2.2.2.2.2.2.2.2
  refine va_mmax (rest := st.map (xv C)) K.1 K.2.1 (by rw [K.2.2.2.1]; exact hls.1.1.symm) K.2.2.2.2.1 (hts _ hl) (hts _ xw_ms) (hts _ xw_mi) (hts _ xw_mc) (by omega) ?_ (by omega) (by omega) hd (kk p e s m args below meth cd R n0 s0 H locs la K hH hls hB)
  rw [xsum]; omega
end XMET
end
section
/-! System.arraycopy over ints; the law's run as the claim wants it -/
def wA (I : xI) (a : Nat) (f : Nat → Int32) : xI := fun b => if b = a then f else I b
theorem wA_same (I : xI) (a : Nat) (f : Nat → Int32) : wA I a f a = f := by simp [wA]
theorem wA_ne (I : xI) {a b : Nat} (f : Nat → Int32) (h : b ≠ a) : wA I a f b = I b := by simp [wA, h]
theorem xw_cn : Cond.native arraycopyName ∈ xtbl := by decide +kernel
theorem xw_cs : Cond.static arraycopyName ∈ xtbl := by decide +kernel
theorem xw_ci : Cond.initialized "java/lang/System" ∈ xtbl := by decide +kernel
theorem xw_words : nativeFrameWords "java/lang/System" "arraycopy" 5 + 11 + 8 ≤ 37 := by decide +kernel
section XCOPY
variable {l : Launch} {C : xC} {M : xM} {pc nx : Nat} {ls ls' : List (Option Value)} {st : List Value} {G G' : xG} {I I' : xI} {r : Option Value}
theorem XW.acopy {idx a0 a m0 m1 : Nat} {sp dp n : Int32} (hd : xd M.2.1 pc (.invokestatic idx) 3 nx) (hl : Cond.methodLink M.1.cls idx arraycopyName ∈ xtbl) (ha0 : gA G a0 100 m0) (ha1 : gA G a 100 m1) (h1 : ¬ sp < 0) (h2 : ¬ dp < 0) (h3 : ¬ n < 0) (h4 : sp.toNatClampNeg + n.toNatClampNeg ≤ m0) (h5 : dp.toNatClampNeg + n.toNatClampNeg ≤ m1) (hst : (st.map fun v => v.category).sum ≤ 8) (hrk : 1 ≤ M.2.2.2.2)
    (kk : XW l C M nx ls st G (wA I a (va_cpy (I a0) (I a) sp.toNatClampNeg dp.toNatClampNeg n.toNatClampNeg)) r G' I') : XW l C M pc ls (.int n :: .int dp :: .ref a :: .int sp :: .ref a0 :: st) G I r G' I' := by
  obtain ⟨hd, rfl⟩ := hd
  intro p e s m args below meth cd R n0 s0 H locs la K hH hls hB
  have hts := K.2.2.2.2.2.1
  have k1 := K.2.2.2.2.2.2.2.2.1
  have k2 := K.2.2.2.2.2.2.2.2.2
  have hw := xw_words
  have z0 : a0 ≠ 0 := by have := ha0.1; omega
  have z1 : a ≠ 0 := by have := ha1.1; omega
  have hA := hH.1.2.1 100 .int rfl
  have ev : ∀ b mm, gA G b 100 mm → xev C G I b = fun j => .int (I b j) := by
    intro b mm hb
    funext j
    rw [xev, hb.2.2.1]; rfl
  have nn : ∀ z : Int32, ¬ z < 0 → z.toInt = (z.toNatClampNeg : Int) := by
    intro z hz
    have hz0 : (0 : Int) ≤ z.toInt := by
      have := Int32.not_lt.mp hz
      simpa using Int32.le_iff_toInt_le.mp this
    show z.toInt = ((z.toInt.toNat : Nat) : Int)
    omega
  have hc0 : H[xad C a0]? = some (vp_cell (C.2.2.2.2.2 100) (m0, .inl (I a0))) := by rw [hH.arr ha0 (by omega), ev _ _ ha0]; rfl
  have hc1 : H[xad C a]? = some (vp_cell (C.2.2.2.2.2 100) (m1, .inl (I a))) := by rw [hH.arr ha1 (by omega), ev _ _ ha1]; rfl
  have hstk : (F0 m pc la ((.int n :: .int dp :: .ref a :: .int sp :: .ref a0 :: st).map (xv C))).stack = .int n :: .int dp :: .ref (xad C a) :: .int sp :: .ref (xad C a0) :: st.map (xv C) := by
    show xv C (.int n) :: xv C (.int dp) :: xv C (.ref a) :: xv C (.int sp) :: xv C (.ref a0) :: _ = _
    rw [xv_ref z0, xv_ref z1]; rfl
  intro T hT X
  obtain ⟨-, kk0, hk0, cm0, hkk0⟩ := hA.1 m0 (fun j => .int (I a0 j))
  obtain ⟨-, kk1, hk1, cm1, hkk1⟩ := hA.1 m1 (fun j => .int (I a j))
  obtain ⟨vm', X', step⟩ := X.arraycopy K.1 K.2.2.2.2.1 (hts _ hl) (hts _ xw_cn) (hts _ xw_cs) (hts _ xw_ci) (src := xad C a0) (dst := xad C a) (cs := vp_cell (C.2.2.2.2.2 100) (m0, .inl (I a0))) (cd := vp_cell (C.2.2.2.2.2 100) (m1, .inl (I a))) (srcPos := sp) (destPos := dp) (n := n) (by rw [hT]; exact hc0) (by rw [hT]; exact hc1)
    (fun _ h => by cases h) (fun _ h => by cases h) (fun h => by cases h) (fun h => by cases h) hk0 hk1 hkk0 hkk1 (by simp [refKind]) h1 h2 h3
    (by rw [nn sp h1, nn n h3]; show ¬ _ > ((arrV _ m0 (fun j => .int (I a0 j))).slots.size : Int); rw [arrV_size]; omega)
    (by rw [nn dp h2, nn n h3]; show ¬ _ > ((arrV _ m1 (fun j => .int (I a j))).slots.size : Int); rw [arrV_size]; omega)
    (fun vm₁ _ i hi => by
      have e : (vp_cell (C.2.2.2.2.2 100) (m0, .inl (I a0))).slots.getD (sp.toNatClampNeg + i) .null = .int (I a0 (sp.toNatClampNeg + i)) := by
        show (arrV _ m0 (fun j => .int (I a0 j))).slots.getD _ _ = _
        rw [Array.getD_eq_getD_getElem?, arrV_read _ _ (by omega)]
        rfl
      refine ⟨?_, ?_⟩
      · rw [e]; rfl
      · rw [e]
        exact trivial)
    (g := F0 m pc la ((.int n :: .int dp :: .ref a :: .int sp :: .ref a0 :: st).map (xv C))) rfl (by rw [K.2.2.2.1]; exact hls.1.1) (rest := st.map (xv C)) hstk (by rw [K.2.1]; exact hd) (by omega) (by show 2 * 0 + _ + _ ≤ _; rw [xsum]; omega)
  have e1 : copied (vp_cell (C.2.2.2.2.2 100) (m0, .inl (I a0))) (vp_cell (C.2.2.2.2.2 100) (m1, .inl (I a))) sp dp n = vp_cell (C.2.2.2.2.2 100) (m1, .inl (va_cpy (I a0) (I a) sp.toNatClampNeg dp.toNatClampNeg n.toNatClampNeg)) := va_copied (fun z => .int z) _ _ (I a0) (I a) h4
  rw [e1] at X' step
  have hlt : xad C a < H.size := (Array.getElem?_eq_some_iff.mp hc1).1
  generalize hnew : va_cpy (I a0) (I a) sp.toNatClampNeg dp.toNatClampNeg n.toNatClampNeg = fn at X' step kk
  have hheap : ((T.setVm vm').setCell (xad C a) (vp_cell (C.2.2.2.2.2 100) (m1, .inl fn))).heap = H.setIfInBounds (xad C a) (vp_cell (C.2.2.2.2.2 100) (m1, .inl fn)) := by rw [← hT]; rfl
  have oq : ∀ q : Nat, q ≠ xad C a → (H.setIfInBounds (xad C a) (vp_cell (C.2.2.2.2.2 100) (m1, .inl fn)))[q]? = H[q]? := fun q hq => by simp [Array.getElem?_setIfInBounds, Ne.symm hq]
  have hX : xH C s G (wA I a fn) (H.setIfInBounds (xad C a) (vp_cell (C.2.2.2.2.2 100) (m1, .inl fn))) := by
    refine hH.put ha1.1 (by simp) oq rfl (fun _ => rfl) (fun _ => rfl) (fun _ _ => rfl) (fun b hb => wA_ne I fn hb) ⟨fun q hq => ?_, fun _ => ?_⟩
    · rw [ha1.2.2.1] at hq
      have := xcl_lt hq
      omega
    · rw [ha1.2.2.1, ha1.2.2.2]
      have e3 : xev C G (wA I a fn) a = fun j => .int (fn j) := by
        funext j
        rw [xev, ha1.2.2.1, wA_same]; rfl
      rw [e3]
      simp [Array.getElem?_setIfInBounds, hlt]
      rfl
  obtain ⟨t, a1, b1⟩ := kk p e s m args below meth cd R n0 s0 _ _ la K hX hls ⟨hB.1, hB.2.1, hB.2.2.1, hB.2.2.2.1, fun q hq => by
      rcases List.mem_append.mp hq with h | h
      · exact hB.2.2.2.2 q h
      · obtain ⟨z, -, hz⟩ := List.mem_map.mp h
        rw [← hz]
        show C.1 ≤ xad C a
        rw [xad_of ha1.1]; omega⟩ _ hheap X'
  exact ⟨t, step t a1, b1⟩
end XCOPY
/-! ===== the top ===== -/
def mL_law : xM := (yL_law, cL_law, 4, some .boolean, 9)
def xG0 : xG := (2, 0, fun _ => 0, fun _ => 0, fun _ _ => 0)
def xI0 : xI := fun _ _ => 0
def R_law : String := "LetterStoreLaw"
def lw_P (b : Addr) (xs : List Int32) (args : Array Value) (s : State) : Prop := args = #[.ref b] ∧ s.IntsAt b xs ∧ xs.length ≤ 3072 ∧ (Jvm.Cond.and given_1 narrow_1).before args s = true
def lw_Q (_ : Array Value) (s : State) (o : Outcome) (t : State) : Prop := o = .returned (some (.int 1)) ∧ Framed s o t [] 600000 7302250
def lw_Z (below : List Frame) (a : Array Value) (s : State) : State → Prop := fun t => ∃ o, t.status = .running ∧ Ended t below o ∧ lw_Q a s o t
def lw_At (p : Program) (s : State) (m : MethodId) (meth : Method) (c : Code) (b L : Nat) (xs : Nat → Int32) : Prop :=
  p.tables.exec = Jvm.exec ∧ c.code = code ∧ meth.sig.returnType = ret ∧ c.maxLocals = 4 ∧ s.vm.findClass R_law = some m.cls ∧ (∀ w ∈ lw_tbl, w.before #[Value.ref b] s = true) ∧ va_X b L xs s s.heap ∧ b < s.heap.size ∧ meth.locks = false ∧ (Jvm.Cond.and given_1 narrow_1).before #[Value.ref b] s = true
theorem W.mono {p : Program} {l : Launch} {e : Env} {R : Room} {s : State} {m : MethodId} {args : Array Value} {below : List Frame} {meth : Method} {c : Code} {H : Heap} {locs : List Loc} {cells slots : Nat} {Q Q2 : State → Prop} {g : JFrame} (h : ∀ t, Q t → Q2 t) (k : W p l e R s m args below meth c H locs cells slots Q g) : W p l e R s m args below meth c H locs cells slots Q2 g := by
  intro T hT X
  obtain ⟨t, a, b⟩ := k T hT X
  exact ⟨t, a, h t b⟩
theorem xarrI {args : Array Value} {s : State} {ty : FieldType} (h : (Cond.arrayClass ty).before args s = true) : ∃ cA : ClassId, ArrOfT s cA ty ∧ s.vm.findClass ("[" ++ ty.toString) = some cA := by
  obtain ⟨cA, kA, comp, hfind, hk, hkind⟩ := Cond.arrayClass_spec h
  exact ⟨cA, fun n z => ⟨fun k h => (by cases h), kA, hk, comp, hkind⟩, hfind⟩
theorem xarrO {args : Array Value} {s : State} {nm : String} (h : (Cond.arrayOver (.object nm)).before args s = true) : ∃ cA : ClassId, ArrOfT s cA (.object nm) ∧ va_RA s cA (.object nm) := by
  obtain ⟨comp, c, k, h1, h2, h3, h4, h5⟩ := Cond.arrayOver_spec h
  exact ⟨c, fun n z => ⟨fun k h => (by cases h), k, h3, comp, h4⟩, k, comp, h3, h4, h1, h5⟩
theorem xno_1 : (Cond.not (.castable "LetterStore$Line" "LetterStore$Sure")) ∈ flatC (Jvm.Cond.and given_1 narrow_1) := by decide +kernel
theorem xno_2 : (Cond.not (.castable "LetterStore$Line" "LetterStore$Held")) ∈ flatC (Jvm.Cond.and given_1 narrow_1) := by decide +kernel
theorem xno_3 : (Cond.not (.castable "LetterStore$Sure" "LetterStore$Held")) ∈ flatC (Jvm.Cond.and given_1 narrow_1) := by decide +kernel
theorem xye : ∀ q ∈ xYes, Cond.castable q.1 q.2 ∈ lw_tbl := by decide +kernel
theorem xov : ∀ n ∈ xOv, Cond.arrayOver (.object n) ∈ lw_tbl := by decide +kernel
theorem xne : ∀ q ∈ xNest, Cond.methodLinkNest q.1 q.2.1 q.2.2.1 q.2.2.2 ∈ lw_tbl := by decide +kernel
theorem xins : ∀ (c : Nat) (q : vw_C), vwCl[c]? = some q → Cond.instantiable q.1 q.2.2 ∈ lw_tbl :=
  xcl_cases (by decide +kernel) (by decide +kernel) (by decide +kernel) (by decide +kernel) (by decide +kernel) (by decide +kernel) (by decide +kernel) (by decide +kernel) (by decide +kernel) (by decide +kernel) (by decide +kernel)
theorem xtbl_sub : ∀ w ∈ xtbl, w ∈ lw_tbl := fun w h => (List.mem_filter.mp h).1
theorem xGC_of {s : State} {args : Array Value} (hts : ∀ w ∈ lw_tbl, w.before args s = true) (hgv : (Jvm.Cond.and given_1 narrow_1).before args s = true) : ∃ (D : va_G) (ar : Nat → ClassId), ∀ (n b L : Nat) (xs : Nat → Int32), xGC (n, b, L, xs, D, ar) s := by
  have hD : ∀ c : Nat, ∃ (cC : ClassId) (iS : Nat → Nat), ∀ q : vw_C, vwCl[c]? = some q → u_Kn s q.1 q.2.1 q.2.2 cC iS := by
    intro c
    cases hq : vwCl[c]? with
    | none => exact ⟨0, fun _ => 0, fun q h => by cases h⟩
    | some q =>
      obtain ⟨cC, iS, h⟩ := u_known (C := q.1) (T := q.2.1) (N := q.2.2) hts (fun w hw => xtbl_sub w (xIn_ok c q hq w hw)) (hts _ (xins c q hq))
      exact ⟨cC, iS, fun q' h' => by cases h'; exact h⟩
  have hAr : ∀ t : Nat, ∃ cA : ClassId, ∀ ty, xAr t = some ty → ArrOfT s cA ty ∧ va_RA s cA ty := by
    intro t
    by_cases h0 : t = 100
    · subst h0
      obtain ⟨cA, h1, h2⟩ := xarrI (hts _ (xtbl_sub _ xarr_int))
      exact ⟨cA, fun ty hty => by cases hty; exact ⟨h1, h2⟩⟩
    by_cases h0 : t = 101
    · subst h0
      obtain ⟨cA, h1, h2⟩ := xarrI (hts _ (xtbl_sub _ xarr_bool))
      exact ⟨cA, fun ty hty => by cases hty; exact ⟨h1, h2⟩⟩
    by_cases h0 : t = 102
    · subst h0
      obtain ⟨cA, h1⟩ := xarrO (hts _ (xov "LetterStore$Line" (by decide)))
      exact ⟨cA, fun ty hty => by cases hty; exact h1⟩
    by_cases h0 : t = 103
    · subst h0
      obtain ⟨cA, h1⟩ := xarrO (hts _ (xov "LetterStore$Row" (by decide)))
      exact ⟨cA, fun ty hty => by cases hty; exact h1⟩
    by_cases h0 : t = 104
    · subst h0
      obtain ⟨cA, h1⟩ := xarrO (hts _ (xov "LetterStore$Sheet" (by decide)))
      exact ⟨cA, fun ty hty => by cases hty; exact h1⟩
    by_cases h0 : t = 105
    · subst h0
      obtain ⟨cA, h1⟩ := xarrO (hts _ (xov "LetterStore$Queue" (by decide)))
      exact ⟨cA, fun ty hty => by cases hty; exact h1⟩
    · refine ⟨0, fun ty hty => ?_⟩
      unfold xAr at hty
      split at hty <;> first | contradiction | omega
  have hf := flat_of_before _ hgv
  refine ⟨(fun c => (hD c).choose, fun c => (hD c).choose_spec.choose), fun t => (hAr t).choose, fun n b L xs => ⟨fun c q hq => (hD c).choose_spec.choose_spec q hq, fun t ty hty => (hAr t).choose_spec ty hty, fun q hq => ?_, fun q hq => va_Nw.of rfl (hts _ (xye q hq)), fun n hn => va_AO.of (hts _ (xov n hn)), fun q hq => va_Nw.of rfl (hts _ (xne q hq))⟩⟩
  unfold xNo at hq
  rcases List.mem_cons.mp hq with rfl | hq
  · exact va_Nc.of (hf _ xno_1)
  rcases List.mem_cons.mp hq with rfl | hq
  · exact va_Nc.of (hf _ xno_2)
  rw [List.mem_singleton.mp hq]
  exact va_Nc.of (hf _ xno_3)
theorem xtop {p : Program} {e : Env} {s : State} {m : MethodId} {below : List Frame} {meth : Method} {c : Code} (l : Launch) {b L : Nat} {xs : Nat → Int32} (C0 : lw_At p s m meth c b L xs)
    (hrun : ∀ C : xC, C.2.2.1 = L → ∃ G1 I1, gN G1 ≤ 600002 ∧ gS G1 ≤ 7302250 ∧ XW l C mL_law 0 (xent mL_law [.ref 1]) [] xG0 xI0 (some (.int 1)) G1 I1) :
    W p l e room_1 s m #[Value.ref b] below meth c s.heap [] 0 0 (lw_Z below #[Value.ref b] s) (entryFrame m ([Value.ref b] : List Value).toArray 4) := by
  obtain ⟨hx, hb, hr, hml, hown, hts, hX, hbl, hlocks, hgv⟩ := C0
  obtain ⟨D, ar, hGC⟩ := xGC_of hts hgv
  obtain ⟨G1, I1, g1, g2, hXW⟩ := hrun (s.heap.size, b, L, xs, D, ar) rfl
  have K : xK mL_law p s m #[Value.ref b] meth c room_1 := ⟨hx, hb, hr, hml, hown, fun w hw => hts w (xtbl_sub w hw), hlocks, fun h => absurd h (by decide), by decide, by decide⟩
  have hH : xH (s.heap.size, b, L, xs, D, ar) s xG0 xI0 s.heap := ⟨hGC _ _ _ _, hX, hbl, by decide, rfl, fun a h1 h2 => by have : a < 2 := h2; omega⟩
  have e0 : ([Value.ref b] : List Value) = ([Value.ref 1] : List Value).map (xv (s.heap.size, b, L, xs, D, ar)) := by
    show _ = [xv _ (Value.ref 1)]
    rw [xv_ref (by omega)]; rfl
  have hls := xls_entry (C := (s.heap.size, b, L, xs, D, ar)) (M := mL_law) (As := [.ref 1]) (by intro v hv; rw [List.mem_singleton.mp hv]; rfl) (by decide)
  have h1 := hXW p e s m #[Value.ref b] below meth c room_1 2 0 s.heap [] _ K hH hls ⟨by decide, by decide, by show _ ≤ 600000; omega, by show _ ≤ 7302250; omega, fun q hq => by cases hq⟩
  rw [e0, lg_entry_eq]
  refine W.mono ?_ h1
  rintro t ⟨o, b1, b2, ⟨b3, -⟩, Lc, ⟨f1, f2, f3⟩, b5⟩
  refine ⟨o, b1, b2, b3, f1, f2, ?_⟩
  obtain ⟨q1, q2, q3, q4, q5, q6⟩ := f3
  refine ⟨q1, q2, q3, q4, q5, fun a cl hc => ?_⟩
  obtain ⟨c', w1, w2, w3, w4⟩ := q6 a cl hc
  refine ⟨c', w1, w2, w3, fun i _ => w4 i (fun hmem => ?_)⟩
  have : s.heap.size ≤ a := b5 _ hmem
  have h9 := (Array.getElem?_eq_some_iff.mp hc).1
  omega
end
