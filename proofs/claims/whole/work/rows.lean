section
-- ===== PART A: goes FIRST, ahead of the names: the tables' words, and 'selects' of the private methods out of them =====
/-- a private method of a class that the tables say can be made, by its rows of tables_1 -/
def lw_okq (q : MethodName × Nat) : Prop := (q.1.cls ≠ "java/lang/invoke/MethodHandle" ∧ q.1.cls ≠ "java/lang/invoke/VarHandle") ∧ Cond.instantiable q.1.cls q.2 ∈ tables_1 ∧ Cond.privateMethod q.1 ∈ tables_1 ∧ Cond.instanceMethod q.1 ∈ tables_1
theorem lw_p0 : lw_okq (⟨"AfternoonChange", "tellAnew", "()V"⟩, 10) := ⟨⟨by decide +kernel, by decide +kernel⟩, List.mem_of_getElem? (i := 15) (by decide +kernel), List.mem_of_getElem? (i := 255) (by decide +kernel), List.mem_of_getElem? (i := 256) (by decide +kernel)⟩
theorem lw_p1 : lw_okq (⟨"AfternoonChange$Told", "placeOnBoard", "(I)V"⟩, 12) := ⟨⟨by decide +kernel, by decide +kernel⟩, List.mem_of_getElem? (i := 44) (by decide +kernel), List.mem_of_getElem? (i := 273) (by decide +kernel), List.mem_of_getElem? (i := 274) (by decide +kernel)⟩
theorem lw_p2 : lw_okq (⟨"AfternoonChange$Ride", "leaveAt", "(I)Z"⟩, 16) := ⟨⟨by decide +kernel, by decide +kernel⟩, List.mem_of_getElem? (i := 125) (by decide +kernel), List.mem_of_getElem? (i := 317) (by decide +kernel), List.mem_of_getElem? (i := 318) (by decide +kernel)⟩
theorem lw_p3 : lw_okq (⟨"AfternoonChange$Ride", "changeAt", "(II)V"⟩, 16) := ⟨⟨by decide +kernel, by decide +kernel⟩, List.mem_of_getElem? (i := 125) (by decide +kernel), List.mem_of_getElem? (i := 322) (by decide +kernel), List.mem_of_getElem? (i := 323) (by decide +kernel)⟩
theorem lw_p4 : lw_okq (⟨"AfternoonChange$Ride", "takeWhole", "(I)Z"⟩, 16) := ⟨⟨by decide +kernel, by decide +kernel⟩, List.mem_of_getElem? (i := 125) (by decide +kernel), List.mem_of_getElem? (i := 327) (by decide +kernel), List.mem_of_getElem? (i := 328) (by decide +kernel)⟩
theorem lw_p5 : lw_okq (⟨"AfternoonChange$Ride", "takeTorn", "(II)Z"⟩, 16) := ⟨⟨by decide +kernel, by decide +kernel⟩, List.mem_of_getElem? (i := 125) (by decide +kernel), List.mem_of_getElem? (i := 339) (by decide +kernel), List.mem_of_getElem? (i := 340) (by decide +kernel)⟩
theorem lw_p6 : lw_okq (⟨"AfternoonChange$Ride", "keep", "(I)V"⟩, 16) := ⟨⟨by decide +kernel, by decide +kernel⟩, List.mem_of_getElem? (i := 125) (by decide +kernel), List.mem_of_getElem? (i := 343) (by decide +kernel), List.mem_of_getElem? (i := 344) (by decide +kernel)⟩
theorem lw_p7 : lw_okq (⟨"AfternoonChange", "tellEven", "(I)I"⟩, 10) := ⟨⟨by decide +kernel, by decide +kernel⟩, List.mem_of_getElem? (i := 15) (by decide +kernel), List.mem_of_getElem? (i := 420) (by decide +kernel), List.mem_of_getElem? (i := 421) (by decide +kernel)⟩
theorem lw_p8 : lw_okq (⟨"AfternoonChange", "tellChanges", "(I)I"⟩, 10) := ⟨⟨by decide +kernel, by decide +kernel⟩, List.mem_of_getElem? (i := 15) (by decide +kernel), List.mem_of_getElem? (i := 424) (by decide +kernel), List.mem_of_getElem? (i := 425) (by decide +kernel)⟩
theorem lw_p9 : lw_okq (⟨"AfternoonChange", "tellForgets", "(I)I"⟩, 10) := ⟨⟨by decide +kernel, by decide +kernel⟩, List.mem_of_getElem? (i := 15) (by decide +kernel), List.mem_of_getElem? (i := 428) (by decide +kernel), List.mem_of_getElem? (i := 429) (by decide +kernel)⟩
theorem lw_p10 : lw_okq (⟨"AfternoonChange", "rideWithEven", "(I)V"⟩, 10) := ⟨⟨by decide +kernel, by decide +kernel⟩, List.mem_of_getElem? (i := 15) (by decide +kernel), List.mem_of_getElem? (i := 509) (by decide +kernel), List.mem_of_getElem? (i := 510) (by decide +kernel)⟩
theorem lw_p11 : lw_okq (⟨"AfternoonChange", "finding", "(I)I"⟩, 10) := ⟨⟨by decide +kernel, by decide +kernel⟩, List.mem_of_getElem? (i := 15) (by decide +kernel), List.mem_of_getElem? (i := 555) (by decide +kernel), List.mem_of_getElem? (i := 556) (by decide +kernel)⟩
theorem lw_p12 : lw_okq (⟨"AfternoonChange", "clearAlike", "()V"⟩, 10) := ⟨⟨by decide +kernel, by decide +kernel⟩, List.mem_of_getElem? (i := 15) (by decide +kernel), List.mem_of_getElem? (i := 576) (by decide +kernel), List.mem_of_getElem? (i := 577) (by decide +kernel)⟩
theorem lw_p13 : lw_okq (⟨"AfternoonChange", "countAlike", "(I)V"⟩, 10) := ⟨⟨by decide +kernel, by decide +kernel⟩, List.mem_of_getElem? (i := 15) (by decide +kernel), List.mem_of_getElem? (i := 581) (by decide +kernel), List.mem_of_getElem? (i := 582) (by decide +kernel)⟩
theorem lw_p14 : lw_okq (⟨"AfternoonChange", "chanceAbove", "(II)J"⟩, 10) := ⟨⟨by decide +kernel, by decide +kernel⟩, List.mem_of_getElem? (i := 15) (by decide +kernel), List.mem_of_getElem? (i := 594) (by decide +kernel), List.mem_of_getElem? (i := 595) (by decide +kernel)⟩
theorem lw_p15 : lw_okq (⟨"AfternoonChange", "refusalOfItem", "(III)I"⟩, 10) := ⟨⟨by decide +kernel, by decide +kernel⟩, List.mem_of_getElem? (i := 15) (by decide +kernel), List.mem_of_getElem? (i := 626) (by decide +kernel), List.mem_of_getElem? (i := 627) (by decide +kernel)⟩
def lw_privs_1 : List (MethodName × Nat) := [(⟨"AfternoonChange", "tellAnew", "()V"⟩, 10), (⟨"AfternoonChange$Told", "placeOnBoard", "(I)V"⟩, 12), (⟨"AfternoonChange$Ride", "leaveAt", "(I)Z"⟩, 16), (⟨"AfternoonChange$Ride", "changeAt", "(II)V"⟩, 16), (⟨"AfternoonChange$Ride", "takeWhole", "(I)Z"⟩, 16), (⟨"AfternoonChange$Ride", "takeTorn", "(II)Z"⟩, 16), (⟨"AfternoonChange$Ride", "keep", "(I)V"⟩, 16), (⟨"AfternoonChange", "tellEven", "(I)I"⟩, 10), (⟨"AfternoonChange", "tellChanges", "(I)I"⟩, 10), (⟨"AfternoonChange", "tellForgets", "(I)I"⟩, 10), (⟨"AfternoonChange", "rideWithEven", "(I)V"⟩, 10), (⟨"AfternoonChange", "finding", "(I)I"⟩, 10), (⟨"AfternoonChange", "clearAlike", "()V"⟩, 10), (⟨"AfternoonChange", "countAlike", "(I)V"⟩, 10), (⟨"AfternoonChange", "chanceAbove", "(II)J"⟩, 10), (⟨"AfternoonChange", "refusalOfItem", "(III)I"⟩, 10)]
theorem lw_r1 : ∀ q ∈ lw_privs_1, lw_okq q := List.forall_mem_cons.mpr ⟨lw_p0, List.forall_mem_cons.mpr ⟨lw_p1, List.forall_mem_cons.mpr ⟨lw_p2, List.forall_mem_cons.mpr ⟨lw_p3, List.forall_mem_cons.mpr ⟨lw_p4, List.forall_mem_cons.mpr ⟨lw_p5, List.forall_mem_cons.mpr ⟨lw_p6, List.forall_mem_cons.mpr ⟨lw_p7, List.forall_mem_cons.mpr ⟨lw_p8, List.forall_mem_cons.mpr ⟨lw_p9, List.forall_mem_cons.mpr ⟨lw_p10, List.forall_mem_cons.mpr ⟨lw_p11, List.forall_mem_cons.mpr ⟨lw_p12, List.forall_mem_cons.mpr ⟨lw_p13, List.forall_mem_cons.mpr ⟨lw_p14, List.forall_mem_cons.mpr ⟨lw_p15, fun _ h => absurd h List.not_mem_nil⟩⟩⟩⟩⟩⟩⟩⟩⟩⟩⟩⟩⟩⟩⟩⟩
theorem lw_p16 : lw_okq (⟨"AfternoonChangeModel", "finds", "(I)I"⟩, 30) := ⟨⟨by decide +kernel, by decide +kernel⟩, List.mem_of_getElem? (i := 685) (by decide +kernel), List.mem_of_getElem? (i := 794) (by decide +kernel), List.mem_of_getElem? (i := 795) (by decide +kernel)⟩
theorem lw_p17 : lw_okq (⟨"AfternoonChangeModel", "lacks", "(III)I"⟩, 30) := ⟨⟨by decide +kernel, by decide +kernel⟩, List.mem_of_getElem? (i := 685) (by decide +kernel), List.mem_of_getElem? (i := 806) (by decide +kernel), List.mem_of_getElem? (i := 807) (by decide +kernel)⟩
theorem lw_p18 : lw_okq (⟨"AfternoonChangeModel", "readsRiders", "()I"⟩, 30) := ⟨⟨by decide +kernel, by decide +kernel⟩, List.mem_of_getElem? (i := 685) (by decide +kernel), List.mem_of_getElem? (i := 842) (by decide +kernel), List.mem_of_getElem? (i := 843) (by decide +kernel)⟩
theorem lw_p19 : lw_okq (⟨"AfternoonChangeModel", "readsBag", "()I"⟩, 30) := ⟨⟨by decide +kernel, by decide +kernel⟩, List.mem_of_getElem? (i := 685) (by decide +kernel), List.mem_of_getElem? (i := 856) (by decide +kernel), List.mem_of_getElem? (i := 857) (by decide +kernel)⟩
theorem lw_p20 : lw_okq (⟨"AfternoonChangeModel", "isRider", "(I)Z"⟩, 30) := ⟨⟨by decide +kernel, by decide +kernel⟩, List.mem_of_getElem? (i := 685) (by decide +kernel), List.mem_of_getElem? (i := 866) (by decide +kernel), List.mem_of_getElem? (i := 867) (by decide +kernel)⟩
theorem lw_p21 : lw_okq (⟨"AfternoonChangeModel", "reads", "()V"⟩, 30) := ⟨⟨by decide +kernel, by decide +kernel⟩, List.mem_of_getElem? (i := 685) (by decide +kernel), List.mem_of_getElem? (i := 884) (by decide +kernel), List.mem_of_getElem? (i := 885) (by decide +kernel)⟩
theorem lw_p22 : lw_okq (⟨"AfternoonChangeModel", "lives", "()V"⟩, 30) := ⟨⟨by decide +kernel, by decide +kernel⟩, List.mem_of_getElem? (i := 685) (by decide +kernel), List.mem_of_getElem? (i := 888) (by decide +kernel), List.mem_of_getElem? (i := 889) (by decide +kernel)⟩
theorem lw_p23 : lw_okq (⟨"AfternoonChangeModel", "begins", "()V"⟩, 30) := ⟨⟨by decide +kernel, by decide +kernel⟩, List.mem_of_getElem? (i := 685) (by decide +kernel), List.mem_of_getElem? (i := 892) (by decide +kernel), List.mem_of_getElem? (i := 893) (by decide +kernel)⟩
theorem lw_p24 : lw_okq (⟨"AfternoonChangeModel", "puts", "(I)V"⟩, 30) := ⟨⟨by decide +kernel, by decide +kernel⟩, List.mem_of_getElem? (i := 685) (by decide +kernel), List.mem_of_getElem? (i := 896) (by decide +kernel), List.mem_of_getElem? (i := 897) (by decide +kernel)⟩
theorem lw_p25 : lw_okq (⟨"AfternoonChangeModel", "stops", "(II)V"⟩, 30) := ⟨⟨by decide +kernel, by decide +kernel⟩, List.mem_of_getElem? (i := 685) (by decide +kernel), List.mem_of_getElem? (i := 900) (by decide +kernel), List.mem_of_getElem? (i := 901) (by decide +kernel)⟩
theorem lw_p26 : lw_okq (⟨"AfternoonChangeModel", "may", "(I)Z"⟩, 30) := ⟨⟨by decide +kernel, by decide +kernel⟩, List.mem_of_getElem? (i := 685) (by decide +kernel), List.mem_of_getElem? (i := 907) (by decide +kernel), List.mem_of_getElem? (i := 908) (by decide +kernel)⟩
theorem lw_p27 : lw_okq (⟨"AfternoonChangeModel", "changesOne", "(I)Z"⟩, 30) := ⟨⟨by decide +kernel, by decide +kernel⟩, List.mem_of_getElem? (i := 685) (by decide +kernel), List.mem_of_getElem? (i := 911) (by decide +kernel), List.mem_of_getElem? (i := 912) (by decide +kernel)⟩
theorem lw_p28 : lw_okq (⟨"AfternoonChangeModel", "find", "(I)I"⟩, 30) := ⟨⟨by decide +kernel, by decide +kernel⟩, List.mem_of_getElem? (i := 685) (by decide +kernel), List.mem_of_getElem? (i := 915) (by decide +kernel), List.mem_of_getElem? (i := 916) (by decide +kernel)⟩
theorem lw_p29 : lw_okq (⟨"AfternoonChangeModel", "takes", "(I)V"⟩, 30) := ⟨⟨by decide +kernel, by decide +kernel⟩, List.mem_of_getElem? (i := 685) (by decide +kernel), List.mem_of_getElem? (i := 919) (by decide +kernel), List.mem_of_getElem? (i := 920) (by decide +kernel)⟩
theorem lw_p30 : lw_okq (⟨"AfternoonChangeModel", "gives", "(II)V"⟩, 30) := ⟨⟨by decide +kernel, by decide +kernel⟩, List.mem_of_getElem? (i := 685) (by decide +kernel), List.mem_of_getElem? (i := 923) (by decide +kernel), List.mem_of_getElem? (i := 924) (by decide +kernel)⟩
theorem lw_p31 : lw_okq (⟨"AfternoonChangeModel", "other", "(I)I"⟩, 30) := ⟨⟨by decide +kernel, by decide +kernel⟩, List.mem_of_getElem? (i := 685) (by decide +kernel), List.mem_of_getElem? (i := 927) (by decide +kernel), List.mem_of_getElem? (i := 928) (by decide +kernel)⟩
def lw_privs_2 : List (MethodName × Nat) := [(⟨"AfternoonChangeModel", "finds", "(I)I"⟩, 30), (⟨"AfternoonChangeModel", "lacks", "(III)I"⟩, 30), (⟨"AfternoonChangeModel", "readsRiders", "()I"⟩, 30), (⟨"AfternoonChangeModel", "readsBag", "()I"⟩, 30), (⟨"AfternoonChangeModel", "isRider", "(I)Z"⟩, 30), (⟨"AfternoonChangeModel", "reads", "()V"⟩, 30), (⟨"AfternoonChangeModel", "lives", "()V"⟩, 30), (⟨"AfternoonChangeModel", "begins", "()V"⟩, 30), (⟨"AfternoonChangeModel", "puts", "(I)V"⟩, 30), (⟨"AfternoonChangeModel", "stops", "(II)V"⟩, 30), (⟨"AfternoonChangeModel", "may", "(I)Z"⟩, 30), (⟨"AfternoonChangeModel", "changesOne", "(I)Z"⟩, 30), (⟨"AfternoonChangeModel", "find", "(I)I"⟩, 30), (⟨"AfternoonChangeModel", "takes", "(I)V"⟩, 30), (⟨"AfternoonChangeModel", "gives", "(II)V"⟩, 30), (⟨"AfternoonChangeModel", "other", "(I)I"⟩, 30)]
theorem lw_r2 : ∀ q ∈ lw_privs_2, lw_okq q := List.forall_mem_cons.mpr ⟨lw_p16, List.forall_mem_cons.mpr ⟨lw_p17, List.forall_mem_cons.mpr ⟨lw_p18, List.forall_mem_cons.mpr ⟨lw_p19, List.forall_mem_cons.mpr ⟨lw_p20, List.forall_mem_cons.mpr ⟨lw_p21, List.forall_mem_cons.mpr ⟨lw_p22, List.forall_mem_cons.mpr ⟨lw_p23, List.forall_mem_cons.mpr ⟨lw_p24, List.forall_mem_cons.mpr ⟨lw_p25, List.forall_mem_cons.mpr ⟨lw_p26, List.forall_mem_cons.mpr ⟨lw_p27, List.forall_mem_cons.mpr ⟨lw_p28, List.forall_mem_cons.mpr ⟨lw_p29, List.forall_mem_cons.mpr ⟨lw_p30, List.forall_mem_cons.mpr ⟨lw_p31, fun _ h => absurd h List.not_mem_nil⟩⟩⟩⟩⟩⟩⟩⟩⟩⟩⟩⟩⟩⟩⟩⟩
theorem lw_p32 : lw_okq (⟨"AfternoonChangeModel", "keeps", "(I)V"⟩, 30) := ⟨⟨by decide +kernel, by decide +kernel⟩, List.mem_of_getElem? (i := 685) (by decide +kernel), List.mem_of_getElem? (i := 931) (by decide +kernel), List.mem_of_getElem? (i := 932) (by decide +kernel)⟩
theorem lw_p33 : lw_okq (⟨"AfternoonChangeModel", "bagOf", "(II)I"⟩, 30) := ⟨⟨by decide +kernel, by decide +kernel⟩, List.mem_of_getElem? (i := 685) (by decide +kernel), List.mem_of_getElem? (i := 948) (by decide +kernel), List.mem_of_getElem? (i := 949) (by decide +kernel)⟩
theorem lw_p34 : lw_okq (⟨"AfternoonChangeModel", "getsOf", "(I)I"⟩, 30) := ⟨⟨by decide +kernel, by decide +kernel⟩, List.mem_of_getElem? (i := 685) (by decide +kernel), List.mem_of_getElem? (i := 956) (by decide +kernel), List.mem_of_getElem? (i := 957) (by decide +kernel)⟩
theorem lw_p35 : lw_okq (⟨"AfternoonChangeModel", "isServed", "(II)Z"⟩, 30) := ⟨⟨by decide +kernel, by decide +kernel⟩, List.mem_of_getElem? (i := 685) (by decide +kernel), List.mem_of_getElem? (i := 960) (by decide +kernel), List.mem_of_getElem? (i := 961) (by decide +kernel)⟩
theorem lw_p36 : lw_okq (⟨"AfternoonChangeModel", "servedBy", "(I)I"⟩, 30) := ⟨⟨by decide +kernel, by decide +kernel⟩, List.mem_of_getElem? (i := 685) (by decide +kernel), List.mem_of_getElem? (i := 976) (by decide +kernel), List.mem_of_getElem? (i := 977) (by decide +kernel)⟩
theorem lw_p37 : lw_okq (⟨"AfternoonChangeModel", "ringsNow", "(I)I"⟩, 30) := ⟨⟨by decide +kernel, by decide +kernel⟩, List.mem_of_getElem? (i := 685) (by decide +kernel), List.mem_of_getElem? (i := 984) (by decide +kernel), List.mem_of_getElem? (i := 985) (by decide +kernel)⟩
theorem lw_p38 : lw_okq (⟨"AfternoonChangeModel", "isRing", "(III)Z"⟩, 30) := ⟨⟨by decide +kernel, by decide +kernel⟩, List.mem_of_getElem? (i := 685) (by decide +kernel), List.mem_of_getElem? (i := 988) (by decide +kernel), List.mem_of_getElem? (i := 989) (by decide +kernel)⟩
theorem lw_p39 : lw_okq (⟨"AfternoonChangeModel", "wantsOf", "(II)Z"⟩, 30) := ⟨⟨by decide +kernel, by decide +kernel⟩, List.mem_of_getElem? (i := 685) (by decide +kernel), List.mem_of_getElem? (i := 992) (by decide +kernel), List.mem_of_getElem? (i := 993) (by decide +kernel)⟩
theorem lw_p40 : lw_okq (⟨"AfternoonChangeModel", "openOf", "(II)I"⟩, 30) := ⟨⟨by decide +kernel, by decide +kernel⟩, List.mem_of_getElem? (i := 685) (by decide +kernel), List.mem_of_getElem? (i := 1000) (by decide +kernel), List.mem_of_getElem? (i := 1001) (by decide +kernel)⟩
theorem lw_p41 : lw_okq (⟨"AfternoonChangeModel", "leastOf", "(I)I"⟩, 30) := ⟨⟨by decide +kernel, by decide +kernel⟩, List.mem_of_getElem? (i := 685) (by decide +kernel), List.mem_of_getElem? (i := 1011) (by decide +kernel), List.mem_of_getElem? (i := 1012) (by decide +kernel)⟩
theorem lw_p42 : lw_okq (⟨"AfternoonChangeModel", "topOf", "(I)I"⟩, 30) := ⟨⟨by decide +kernel, by decide +kernel⟩, List.mem_of_getElem? (i := 685) (by decide +kernel), List.mem_of_getElem? (i := 1022) (by decide +kernel), List.mem_of_getElem? (i := 1023) (by decide +kernel)⟩
theorem lw_p43 : lw_okq (⟨"AfternoonChangeModel", "hadOf", "(I)I"⟩, 30) := ⟨⟨by decide +kernel, by decide +kernel⟩, List.mem_of_getElem? (i := 685) (by decide +kernel), List.mem_of_getElem? (i := 1044) (by decide +kernel), List.mem_of_getElem? (i := 1045) (by decide +kernel)⟩
theorem lw_p44 : lw_okq (⟨"AfternoonChangeModel", "isSeen", "()Z"⟩, 30) := ⟨⟨by decide +kernel, by decide +kernel⟩, List.mem_of_getElem? (i := 685) (by decide +kernel), List.mem_of_getElem? (i := 1048) (by decide +kernel), List.mem_of_getElem? (i := 1049) (by decide +kernel)⟩
theorem lw_p45 : lw_okq (⟨"AfternoonChangeModel", "wasNow", "()I"⟩, 30) := ⟨⟨by decide +kernel, by decide +kernel⟩, List.mem_of_getElem? (i := 685) (by decide +kernel), List.mem_of_getElem? (i := 1056) (by decide +kernel), List.mem_of_getElem? (i := 1057) (by decide +kernel)⟩
theorem lw_p46 : lw_okq (⟨"AfternoonChangeModel", "askOf", "(I)I"⟩, 30) := ⟨⟨by decide +kernel, by decide +kernel⟩, List.mem_of_getElem? (i := 685) (by decide +kernel), List.mem_of_getElem? (i := 1064) (by decide +kernel), List.mem_of_getElem? (i := 1065) (by decide +kernel)⟩
theorem lw_p47 : lw_okq (⟨"AfternoonChangeModel", "maybeOf", "(IIII)J"⟩, 30) := ⟨⟨by decide +kernel, by decide +kernel⟩, List.mem_of_getElem? (i := 685) (by decide +kernel), List.mem_of_getElem? (i := 1073) (by decide +kernel), List.mem_of_getElem? (i := 1074) (by decide +kernel)⟩
def lw_privs_3 : List (MethodName × Nat) := [(⟨"AfternoonChangeModel", "keeps", "(I)V"⟩, 30), (⟨"AfternoonChangeModel", "bagOf", "(II)I"⟩, 30), (⟨"AfternoonChangeModel", "getsOf", "(I)I"⟩, 30), (⟨"AfternoonChangeModel", "isServed", "(II)Z"⟩, 30), (⟨"AfternoonChangeModel", "servedBy", "(I)I"⟩, 30), (⟨"AfternoonChangeModel", "ringsNow", "(I)I"⟩, 30), (⟨"AfternoonChangeModel", "isRing", "(III)Z"⟩, 30), (⟨"AfternoonChangeModel", "wantsOf", "(II)Z"⟩, 30), (⟨"AfternoonChangeModel", "openOf", "(II)I"⟩, 30), (⟨"AfternoonChangeModel", "leastOf", "(I)I"⟩, 30), (⟨"AfternoonChangeModel", "topOf", "(I)I"⟩, 30), (⟨"AfternoonChangeModel", "hadOf", "(I)I"⟩, 30), (⟨"AfternoonChangeModel", "isSeen", "()Z"⟩, 30), (⟨"AfternoonChangeModel", "wasNow", "()I"⟩, 30), (⟨"AfternoonChangeModel", "askOf", "(I)I"⟩, 30), (⟨"AfternoonChangeModel", "maybeOf", "(IIII)J"⟩, 30)]
theorem lw_r3 : ∀ q ∈ lw_privs_3, lw_okq q := List.forall_mem_cons.mpr ⟨lw_p32, List.forall_mem_cons.mpr ⟨lw_p33, List.forall_mem_cons.mpr ⟨lw_p34, List.forall_mem_cons.mpr ⟨lw_p35, List.forall_mem_cons.mpr ⟨lw_p36, List.forall_mem_cons.mpr ⟨lw_p37, List.forall_mem_cons.mpr ⟨lw_p38, List.forall_mem_cons.mpr ⟨lw_p39, List.forall_mem_cons.mpr ⟨lw_p40, List.forall_mem_cons.mpr ⟨lw_p41, List.forall_mem_cons.mpr ⟨lw_p42, List.forall_mem_cons.mpr ⟨lw_p43, List.forall_mem_cons.mpr ⟨lw_p44, List.forall_mem_cons.mpr ⟨lw_p45, List.forall_mem_cons.mpr ⟨lw_p46, List.forall_mem_cons.mpr ⟨lw_p47, fun _ h => absurd h List.not_mem_nil⟩⟩⟩⟩⟩⟩⟩⟩⟩⟩⟩⟩⟩⟩⟩⟩
theorem lw_p48 : lw_okq (⟨"AfternoonChangeModel", "depotOf", "(III)I"⟩, 30) := ⟨⟨by decide +kernel, by decide +kernel⟩, List.mem_of_getElem? (i := 685) (by decide +kernel), List.mem_of_getElem? (i := 1088) (by decide +kernel), List.mem_of_getElem? (i := 1089) (by decide +kernel)⟩
theorem lw_p49 : lw_okq (⟨"AfternoonChangeModel", "lot", "(I)I"⟩, 30) := ⟨⟨by decide +kernel, by decide +kernel⟩, List.mem_of_getElem? (i := 685) (by decide +kernel), List.mem_of_getElem? (i := 1092) (by decide +kernel), List.mem_of_getElem? (i := 1093) (by decide +kernel)⟩
theorem lw_p50 : lw_okq (⟨"AfternoonChangeModel", "tellsRider", "(JI)J"⟩, 30) := ⟨⟨by decide +kernel, by decide +kernel⟩, List.mem_of_getElem? (i := 685) (by decide +kernel), List.mem_of_getElem? (i := 1115) (by decide +kernel), List.mem_of_getElem? (i := 1116) (by decide +kernel)⟩
theorem lw_p51 : lw_okq (⟨"AfternoonChangeModel", "tellsDay", "(JI)J"⟩, 30) := ⟨⟨by decide +kernel, by decide +kernel⟩, List.mem_of_getElem? (i := 685) (by decide +kernel), List.mem_of_getElem? (i := 1119) (by decide +kernel), List.mem_of_getElem? (i := 1120) (by decide +kernel)⟩
def lw_privs_4 : List (MethodName × Nat) := [(⟨"AfternoonChangeModel", "depotOf", "(III)I"⟩, 30), (⟨"AfternoonChangeModel", "lot", "(I)I"⟩, 30), (⟨"AfternoonChangeModel", "tellsRider", "(JI)J"⟩, 30), (⟨"AfternoonChangeModel", "tellsDay", "(JI)J"⟩, 30)]
theorem lw_r4 : ∀ q ∈ lw_privs_4, lw_okq q := List.forall_mem_cons.mpr ⟨lw_p48, List.forall_mem_cons.mpr ⟨lw_p49, List.forall_mem_cons.mpr ⟨lw_p50, List.forall_mem_cons.mpr ⟨lw_p51, fun _ h => absurd h List.not_mem_nil⟩⟩⟩⟩
def lw_privs : List (MethodName × Nat) := lw_privs_1 ++ (lw_privs_2 ++ (lw_privs_3 ++ (lw_privs_4)))
def lw_tbl : List Cond := k2_sels lw_privs ++ tables_1
theorem lw_privs_ok : ∀ q ∈ lw_privs, lw_okq q := by
  show ∀ q ∈ lw_privs_1 ++ (lw_privs_2 ++ (lw_privs_3 ++ (lw_privs_4))), lw_okq q
  exact List.forall_mem_append.mpr ⟨lw_r1, List.forall_mem_append.mpr ⟨lw_r2, List.forall_mem_append.mpr ⟨lw_r3, lw_r4⟩⟩⟩
-- ===== end of PART A; then your names; then what follows =====
end
section
/-! names, fields, codes (as printed), and the rows of arrays of arrays; then which words stand in the tables -/
def va_AOA (ty : FieldType) (U : State) : Prop := (Cond.arrayOver (.array ty)).before #[] U = true
theorem va_AOA.use {ty : FieldType} {A : Array Value} {U : State} (h : va_AOA ty U) : (Cond.arrayOver (.array ty)).before A U = true := h
theorem va_AOA.of {ty : FieldType} {A : Array Value} {U : State} (h : (Cond.arrayOver (.array ty)).before A U = true) : va_AOA ty U := h
/-! ===== BEGIN new T[n][m]: the outer array a place, the inner ones among the pooled ===== -/
/-- f, but v at every address of l -/
def vr_up {α : Type} (f : Nat → α) (l : List Nat) (v : α) : Nat → α := fun a => if a ∈ l then v else f a
theorem vr_up_in {α : Type} {f : Nat → α} {l : List Nat} {v : α} {a : Nat} (h : a ∈ l) : vr_up f l v a = v := if_pos h
theorem vr_up_ne {α : Type} {f : Nat → α} {l : List Nat} {v : α} {a : Nat} (h : a ∉ l) : vr_up f l v a = f a := if_neg h
theorem vr_rows {L l : List Nat} {f : Nat → va_E} {e : va_E} (h : ∀ a, a ∈ l → a ∉ L) : va_pl L f ++ l.map (fun a => (a, e)) = va_pl (L ++ l) (vr_up f l e) := by
  unfold va_pl
  rw [List.map_append]
  congr 1
  · apply List.map_congr_left
    intro a ha
    rw [vr_up_ne (fun q => h a q ha)]
  · apply List.map_congr_left
    intro a ha
    rw [vr_up_in ha]
theorem vr_lay {X rows : va_W} {x : Nat × va_E} {pl : va_W} {D : va_G} {cl : List vw_C} {H : Heap} (hP : va_P D cl (((X ++ pl) ++ [x]) ++ rows) H) : va_P D cl ((X ++ [x]) ++ (pl ++ rows)) H := by
  rw [List.append_assoc (X ++ pl)] at hP
  have h := va_P.swap hP
  rw [← List.append_assoc X] at h
  have h2 := va_P.swap h
  rw [List.append_assoc (X ++ [x])] at h2
  exact h2
theorem vr_layD {X rows : va_W} {x : Nat × va_E} {pl : va_W} {A : Nat → Prop} (hD : va_D A (((X ++ pl) ++ [x]) ++ rows)) : va_D A ((X ++ [x]) ++ (pl ++ rows)) := by
  rw [List.append_assoc (X ++ pl)] at hD
  have h := va_D.swap hD
  rw [← List.append_assoc X] at h
  have h2 := va_D.swap h
  rw [List.append_assoc (X ++ [x])] at h2
  exact h2
theorem vr_outer (c : ClassId) (N h0 : Nat) : ∀ i : Nat, Jvm.Free.Multi.outerC c N h0 i = arrV c N (fun j => va_rf (if j < i then some (h0 + 1 + j) else none))
  | 0 => by
    show ({ cls := c, slots := Array.replicate N .null, vm := .none } : Cell) = _
    rw [arrV_new]
    refine congrArg (arrV c N) (funext fun j => ?_)
    simp [va_rf]
  | i + 1 => by
    show (Jvm.Free.Multi.outerC c N h0 i).setSlot i (.ref (h0 + 1 + i)) = _
    rw [vr_outer c N h0 i, arrV_store]
    refine congrArg (arrV c N) (funext fun j => ?_)
    by_cases e : j = i
    · subst e
      simp [updV, va_rf]
    · by_cases h : j < i
      · simp [updV, e, h, Nat.lt_succ_of_lt h]
      · simp [updV, e, h, show ¬ j < i + 1 by omega]
section VGM
variable {p : Program} {l : Launch} {e : Env} {R : Room} {s : State} {m : MethodId} {args : Array Value} {below : List Frame} {meth : Method} {c : Code} {H : Heap} {locs : List Loc} {cells slots : Nat} {Q : State → Prop}
variable {cc : ByteArray} {pc : Nat} {ls : Array Slot} {rest : List Value} {D : va_G} {cl : List vw_C} {A : Nat → Prop} {a : Nat} {tys : List (ClassId × FieldType)} {ws : va_W} {H0 : Heap}
theorem va_mna {X : va_W} {L : List Nat} {f : Nat → va_E} {cc : ByteArray} (hexec : p.tables.exec = Jvm.exec) (hb : c.code = cc) {own : String} {index : Nat} {ty : FieldType} {cy : ClassId} (hown : s.vm.findClass own = some m.cls) (hclink : (Cond.classLink own index ("[" ++ (FieldType.array ty).toString)).before args s = true) (hover : va_AOA ty s) (harr : (Cond.arrayClass ty).before args s = true) (hcy : s.vm.findClass (FieldType.array ty).toString = some cy)
    (hK : va_K D cl tys s) (hP : va_P D cl (X ++ va_pl L f) H) (hD : va_D A (X ++ va_pl L f)) (hS : va_S A H0 H locs) (hA : ∀ q, H0.size ≤ q → A q) {n k : Int32} {N' K' : Nat} {z : vp_A} (hn : ¬ n < 0) (hk : ¬ k < 0) (hN : n.toNatClampNeg = N') (hM : k.toNatClampNeg = K')
    (hb1 : N' * 4 ≤ 536870912) (hb2 : K' * componentBytes ty ≤ 536870912) (hb3 : K' ≤ 536870912) (hdf : fits ty (defaultValue ty) = true) (hdd : (defaultValue ty).isDefault = true) (hcells : cells + (1 + N') ≤ R.cells) (hslots : slots + (N' + N' * K') ≤ R.slots) (hz : ∀ c : ClassId, Jvm.Free.Multi.innerC c K' (defaultValue ty) = vp_cell c z) (hdg : decode cc pc = .ok (.multianewarray index 2, 4))
    (kk : ∀ (q : Nat) (r : Nat → Nat) (cA : ClassId) (H1 : Heap), (∀ i j : Nat, i < N' → j < N' → r i = r j → i = j) → (∀ i : Nat, i < N' → r i ∉ L) → va_K D cl (tys ++ [(cA, .array ty)]) s →
      va_P D cl ((X ++ [(q, .inl (cA, N', .inr (.inr (.inr (.inr (fun i => if i < N' then some (r i) else none))))))]) ++ va_pl (L ++ (List.range N').map r) (vr_up f ((List.range N').map r) (.inl (cy, z)))) H1 → va_D A ((X ++ [(q, .inl (cA, N', .inr (.inr (.inr (.inr (fun i => if i < N' then some (r i) else none))))))]) ++ va_pl (L ++ (List.range N').map r) (vr_up f ((List.range N').map r) (.inl (cy, z)))) → va_S A H0 H1 locs →
      W p l e R s m args below meth c H1 locs (cells + 1 + N') (slots + N' + N' * K') Q (F0 m (pc + 4) ls (.ref q :: rest))) : W p l e R s m args below meth c H locs cells slots Q (F0 m pc ls (.int k :: .int n :: rest)) := by
  subst hN
  subst hM
  intro T hT Xs
  obtain ⟨vm₁, cA, comp, -, fA, fC, hO, -, X', step⟩ := Xs.multianewarray2F hexec hown hclink (va_AOA.use hover) harr (g := F0 m pc ls (.int k :: .int n :: rest)) rfl (by rw [hb]; exact hdg) rfl hn hk hb1 hb2 hb3 hdf hdd hcells hslots
  have ec : some cy = some comp := hcy.symm.trans fC
  cases ec
  generalize hF : Jvm.Free.Multi.fill (T.setVm vm₁) cA cy n.toNatClampNeg k.toNatClampNeg (defaultValue ty) n.toNatClampNeg = F at X' step
  have hTh : (T.setVm vm₁).heap = H := hT
  obtain ⟨f1, f2, -, -⟩ := Jvm.Free.Multi.fill_facts (T.setVm vm₁) cA cy n.toNatClampNeg k.toNatClampNeg (defaultValue ty) n.toNatClampNeg
  rw [hF, hTh] at f1 f2
  have hold : ∀ x : Nat, x < H.size → F.heap[x]? = H[x]? := fun x hx => by
    have := Jvm.Free.Multi.fill_old (T.setVm vm₁) cA cy n.toNatClampNeg k.toNatClampNeg (defaultValue ty) (a := x) (by rw [hTh]; exact hx) n.toNatClampNeg
    rw [hF, hTh] at this
    exact this
  have hrow : ∀ j : Nat, j < n.toNatClampNeg → F.heap[H.size + 1 + j]? = some (vp_cell cy z) := fun j hj => by
    have := Jvm.Free.Multi.fill_inner (T.setVm vm₁) cA cy n.toNatClampNeg k.toNatClampNeg (defaultValue ty) n.toNatClampNeg j hj
    rw [hF, hTh, hz] at this
    exact this
  have hout : Jvm.Free.Multi.outerC cA n.toNatClampNeg H.size n.toNatClampNeg = vp_cell cA (n.toNatClampNeg, .inr (.inr (.inr (.inr (fun i => if i < n.toNatClampNeg then some (H.size + 1 + i) else none))))) := by
    rw [vp_cell_q]
    exact vr_outer cA n.toNatClampNeg H.size n.toNatClampNeg
  rw [hout] at f2
  have hlt : ∀ a, a ∈ L → a < H.size := fun a ha => by
    obtain ⟨k9, hk9⟩ := va_pl_get (X := X) (f := f) ha
    exact (hP k9 _ hk9).lt
  have hnl : ∀ i : Nat, i < n.toNatClampNeg → H.size + 1 + i ∉ L := fun i _ h => by
    have := hlt _ h
    omega
  have hnm : ∀ a, a ∈ (List.range n.toNatClampNeg).map (fun i => H.size + 1 + i) → a ∉ L := fun a ha h => by
    obtain ⟨i, -, rfl⟩ := List.mem_map.mp ha
    have := hlt _ h
    omega
  have hP0 : va_P D cl (X ++ va_pl L f) F.heap := hP.kept (fun k9 x hx => hold x.1 ((hP k9 x hx).lt))
  have hP1 : va_P D cl ((X ++ va_pl L f) ++ [(H.size, .inl (cA, n.toNatClampNeg, .inr (.inr (.inr (.inr (fun i => if i < n.toNatClampNeg then some (H.size + 1 + i) else none))))))]) F.heap := hP0.app (fun k9 x hx => by
    have h0 : k9 < 1 := (List.getElem?_eq_some_iff.mp hx).1
    rw [show k9 = 0 by omega] at hx
    cases hx
    exact f2)
  have hP2 : va_P D cl (((X ++ va_pl L f) ++ [(H.size, .inl (cA, n.toNatClampNeg, .inr (.inr (.inr (.inr (fun i => if i < n.toNatClampNeg then some (H.size + 1 + i) else none))))))]) ++ ((List.range n.toNatClampNeg).map (fun i => H.size + 1 + i)).map (fun a => (a, .inl (cy, z)))) F.heap := hP1.app (fun k9 x hx => by
    obtain ⟨a, ha, rfl⟩ := List.mem_map.mp (List.mem_of_getElem? hx)
    obtain ⟨i, hi, rfl⟩ := List.mem_map.mp ha
    exact hrow i (List.mem_range.mp hi))
  have hD2 : va_D A (((X ++ va_pl L f) ++ [(H.size, .inl (cA, n.toNatClampNeg, .inr (.inr (.inr (.inr (fun i => if i < n.toNatClampNeg then some (H.size + 1 + i) else none))))))]) ++ ((List.range n.toNatClampNeg).map (fun i => H.size + 1 + i)).map (fun a => (a, .inl (cy, z)))) := by
    have hD1 := hD.push (e := .inl (cA, n.toNatClampNeg, .inr (.inr (.inr (.inr (fun i => if i < n.toNatClampNeg then some (H.size + 1 + i) else none)))))) hP rfl (hA _ hS.1)
    generalize hW1 : (X ++ va_pl L f) ++ [(H.size, .inl (cA, n.toNatClampNeg, .inr (.inr (.inr (.inr (fun i => if i < n.toNatClampNeg then some (H.size + 1 + i) else none))))))] = W1 at hD1 hP1 ⊢
    have hle : ∀ (k9 : Nat) (x : Nat × va_E), W1[k9]? = some x → x.1 ≤ H.size := fun k9 x hx => by
      rw [← hW1] at hx
      by_cases hl : k9 < (X ++ va_pl L f).length
      · rw [List.getElem?_append_left hl] at hx
        exact Nat.le_of_lt ((hP k9 x hx).lt)
      · rw [List.getElem?_append_right (by omega)] at hx
        have h0 : k9 - (X ++ va_pl L f).length < 1 := (List.getElem?_eq_some_iff.mp hx).1
        rw [show k9 - (X ++ va_pl L f).length = 0 by omega] at hx
        cases hx
        exact Nat.le_refl _
    have hr : ∀ (k9 : Nat) (x : Nat × va_E), (((List.range n.toNatClampNeg).map (fun i => H.size + 1 + i)).map (fun a => ((a, .inl (cy, z)) : Nat × va_E)))[k9]? = some x → x.1 = H.size + 1 + k9 := fun k9 x hx => by
      rw [List.getElem?_map, List.getElem?_map] at hx
      by_cases h9 : k9 < n.toNatClampNeg
      · rw [List.getElem?_range h9] at hx
        cases hx
        rfl
      · have hn0 : (List.range n.toNatClampNeg)[k9]? = none := List.getElem?_eq_none (by rw [List.length_range]; omega)
        rw [hn0] at hx
        cases hx
    refine ⟨fun i j x y hi hj hxy => ?_, fun k9 x hx => ?_⟩
    · by_cases h1 : i < W1.length <;> by_cases h2 : j < W1.length
      · rw [List.getElem?_append_left h1] at hi
        rw [List.getElem?_append_left h2] at hj
        exact hD1.1 i j x y hi hj hxy
      · rw [List.getElem?_append_left h1] at hi
        rw [List.getElem?_append_right (by omega)] at hj
        have := hle _ _ hi
        have := hr _ _ hj
        omega
      · rw [List.getElem?_append_right (by omega)] at hi
        rw [List.getElem?_append_left h2] at hj
        have := hle _ _ hj
        have := hr _ _ hi
        omega
      · rw [List.getElem?_append_right (by omega)] at hi hj
        have := hr _ _ hi
        have := hr _ _ hj
        omega
    · by_cases h1 : k9 < W1.length
      · rw [List.getElem?_append_left h1] at hx
        exact hD1.2 k9 x hx
      · rw [List.getElem?_append_right (by omega)] at hx
        have := hr _ _ hx
        exact hA _ (by have := hS.1; omega)
  have hAr : ArrOfT s cA (.array ty) := fun N9 z9 => by
    obtain ⟨-, k9, hk9, cm9, hkk9⟩ := (hO 0 0 0).1
    exact ⟨(fun q hq => by cases hq), k9, hk9, cm9, hkk9⟩
  have hK2 : va_K D cl (tys ++ [(cA, .array ty)]) s := ⟨hK.1, fun k9 x hx => by
    by_cases hl : k9 < tys.length
    · rw [List.getElem?_append_left hl] at hx
      exact hK.2 k9 x hx
    · rw [List.getElem?_append_right (by omega)] at hx
      have h0 : k9 - tys.length < 1 := (List.getElem?_eq_some_iff.mp hx).1
      rw [show k9 - tys.length = 0 by omega] at hx
      cases hx
      exact ⟨hAr, fA⟩⟩
  obtain ⟨t, a1, b1⟩ := kk H.size (fun i => H.size + 1 + i) cA F.heap (fun i j _ _ h => by have h9 : H.size + 1 + i = H.size + 1 + j := h; omega) hnl hK2 (by rw [← vr_rows hnm]; exact vr_lay hP2) (by rw [← vr_rows hnm]; exact vr_layD hD2) ⟨by rw [f1]; have := hS.1; omega, fun x h1 h2 => (hold x (Nat.lt_of_lt_of_le h1 hS.1)).trans (hS.2.1 x h1 h2), hS.2.2⟩ F rfl X'
  refine ⟨t, step t ?_, b1⟩
  have e : T.heap.size = H.size := by rw [hT]
  rw [e]
  exact a1
end VGM
/-! ===== END ===== -/

/-! ===== BEGIN printed: names, fields, word lists, decode rows ===== -/
def RX0 : String := "AfternoonChange$Bag"
def TX0 : u_T := fun k => match k with
  | 0 => ("AfternoonChange$Bag", "kinds", "[I", true)
  | _ => ("AfternoonChange$Bag", "size", "I", false)
def tyX0 : Nat → FieldType := fun k => match k with
  | 0 => .array .int
  | _ => .int
theorem nmX0 : ∀ a, a < 2 → ∀ b, b < 2 → a ≠ b → (TX0 a).2.1 ≠ (TX0 b).2.1 := by decide +kernel
theorem tyX0_ok : ∀ k, k < 2 → parseFieldDescriptor (TX0 k).2.2.1 = some (tyX0 k) := by decide +kernel
abbrev cX0_init : ByteArray := prog_2_method_1_code
def yX0_init : MethodName := ⟨RX0, "<init>", "()V"⟩
abbrev cX0_become : ByteArray := prog_2_method_2_code
def yX0_become : MethodName := ⟨RX0, "become", "(LAfternoonChange$Bag;)V"⟩
abbrev cX0_putAtBottom : ByteArray := prog_2_method_3_code
def yX0_putAtBottom : MethodName := ⟨RX0, "putAtBottom", "(I)V"⟩
abbrev cX0_putOnTop : ByteArray := prog_2_method_4_code
def yX0_putOnTop : MethodName := ⟨RX0, "putOnTop", "(I)V"⟩
abbrev cX0_placeOf : ByteArray := prog_2_method_5_code
def yX0_placeOf : MethodName := ⟨RX0, "placeOf", "(I)I"⟩
abbrev cX0_takeOut : ByteArray := prog_2_method_6_code
def yX0_takeOut : MethodName := ⟨RX0, "takeOut", "(I)V"⟩
def RX1 : String := "AfternoonChange$Ride"
def TX1 : u_T := fun k => match k with
  | 0 => ("AfternoonChange$Ride", "told", "LAfternoonChange$Told;", true)
  | 1 => ("AfternoonChange$Ride", "even", "I", false)
  | 2 => ("AfternoonChange$Ride", "changes", "I", false)
  | 3 => ("AfternoonChange$Ride", "has", "[I", true)
  | 4 => ("AfternoonChange$Ride", "bag", "LAfternoonChange$Bag;", true)
  | 5 => ("AfternoonChange$Ride", "torn", "I", false)
  | 6 => ("AfternoonChange$Ride", "hasBehind", "[[I", true)
  | 7 => ("AfternoonChange$Ride", "tornBehind", "[I", true)
  | 8 => ("AfternoonChange$Ride", "servedBehind", "[I", true)
  | 9 => ("AfternoonChange$Ride", "bagBehind", "[LAfternoonChange$Bag;", true)
  | 10 => ("AfternoonChange$Ride", "lastDay", "I", false)
  | 11 => ("AfternoonChange$Ride", "made", "I", false)
  | 12 => ("AfternoonChange$Ride", "firstDay", "I", false)
  | 13 => ("AfternoonChange$Ride", "firstStop", "I", false)
  | 14 => ("AfternoonChange$Ride", "firstRider", "I", false)
  | _ => ("AfternoonChange$Ride", "stillDay", "I", false)
def tyX1 : Nat → FieldType := fun k => match k with
  | 0 => .object "AfternoonChange$Told"
  | 1 => .int
  | 2 => .int
  | 3 => .array .int
  | 4 => .object "AfternoonChange$Bag"
  | 5 => .int
  | 6 => .array (.array .int)
  | 7 => .array .int
  | 8 => .array .int
  | 9 => .array (.object "AfternoonChange$Bag")
  | 10 => .int
  | 11 => .int
  | 12 => .int
  | 13 => .int
  | 14 => .int
  | _ => .int
theorem nmX1 : ∀ a, a < 16 → ∀ b, b < 16 → a ≠ b → (TX1 a).2.1 ≠ (TX1 b).2.1 := by decide +kernel
theorem tyX1_ok : ∀ k, k < 16 → parseFieldDescriptor (TX1 k).2.2.1 = some (tyX1 k) := by decide +kernel
abbrev cX1_init : ByteArray := prog_3_method_1_code
def yX1_init : MethodName := ⟨RX1, "<init>", "(LAfternoonChange$Told;)V"⟩
abbrev cX1_begin : ByteArray := prog_3_method_2_code
def yX1_begin : MethodName := ⟨RX1, "begin", "()V"⟩
abbrev cX1_go : ByteArray := prog_3_method_3_code
def yX1_go : MethodName := ⟨RX1, "go", "()V"⟩
abbrev cX1_leaveAt : ByteArray := prog_3_method_4_code
def yX1_leaveAt : MethodName := ⟨RX1, "leaveAt", "(I)Z"⟩
abbrev cX1_changeAt : ByteArray := prog_3_method_5_code
def yX1_changeAt : MethodName := ⟨RX1, "changeAt", "(II)V"⟩
abbrev cX1_takeWhole : ByteArray := prog_3_method_6_code
def yX1_takeWhole : MethodName := ⟨RX1, "takeWhole", "(I)Z"⟩
abbrev cX1_takeTorn : ByteArray := prog_3_method_7_code
def yX1_takeTorn : MethodName := ⟨RX1, "takeTorn", "(II)Z"⟩
abbrev cX1_keep : ByteArray := prog_3_method_8_code
def yX1_keep : MethodName := ⟨RX1, "keep", "(I)V"⟩
abbrev cX1_hasOn : ByteArray := prog_3_method_9_code
def yX1_hasOn : MethodName := ⟨RX1, "hasOn", "(II)I"⟩
abbrev cX1_tornOn : ByteArray := prog_3_method_10_code
def yX1_tornOn : MethodName := ⟨RX1, "tornOn", "(I)I"⟩
abbrev cX1_servedOn : ByteArray := prog_3_method_11_code
def yX1_servedOn : MethodName := ⟨RX1, "servedOn", "(I)I"⟩
abbrev cX1_bagOn : ByteArray := prog_3_method_12_code
def yX1_bagOn : MethodName := ⟨RX1, "bagOn", "(I)LAfternoonChange$Bag;"⟩
abbrev cX1_servedAtLast : ByteArray := prog_3_method_13_code
def yX1_servedAtLast : MethodName := ⟨RX1, "servedAtLast", "()I"⟩
def RX2 : String := "AfternoonChange$Sheet"
def TX2 : u_T := fun k => match k with
  | 0 => ("AfternoonChange$Sheet", "form", "I", false)
  | 1 => ("AfternoonChange$Sheet", "size", "I", false)
  | _ => ("AfternoonChange$Sheet", "items", "[I", true)
def tyX2 : Nat → FieldType := fun k => match k with
  | 0 => .int
  | 1 => .int
  | _ => .array .int
theorem nmX2 : ∀ a, a < 3 → ∀ b, b < 3 → a ≠ b → (TX2 a).2.1 ≠ (TX2 b).2.1 := by decide +kernel
theorem tyX2_ok : ∀ k, k < 3 → parseFieldDescriptor (TX2 k).2.2.1 = some (tyX2 k) := by decide +kernel
abbrev cX2_init : ByteArray := prog_4_method_1_code
def yX2_init : MethodName := ⟨RX2, "<init>", "()V"⟩
abbrev cX2_isLost : ByteArray := prog_4_method_2_code
def yX2_isLost : MethodName := ⟨RX2, "isLost", "()Z"⟩
abbrev cX2_startAnew : ByteArray := prog_4_method_3_code
def yX2_startAnew : MethodName := ⟨RX2, "startAnew", "(II)V"⟩
abbrev cX2_giveUp : ByteArray := prog_4_method_4_code
def yX2_giveUp : MethodName := ⟨RX2, "giveUp", "()V"⟩
abbrev cX2_hasItems : ByteArray := prog_4_method_5_code
def yX2_hasItems : MethodName := ⟨RX2, "hasItems", "(II)Z"⟩
abbrev cX2_put : ByteArray := prog_4_method_6_code
def yX2_put : MethodName := ⟨RX2, "put", "(II)V"⟩
def RX3 : String := "AfternoonChange$Sightings"
def TX3 : u_T := fun k => match k with
  | 0 => ("AfternoonChange$Sightings", "days", "[I", true)
  | 1 => ("AfternoonChange$Sightings", "riders", "[I", true)
  | 2 => ("AfternoonChange$Sightings", "afternoons", "[I", true)
  | _ => ("AfternoonChange$Sightings", "size", "I", false)
def tyX3 : Nat → FieldType := fun k => match k with
  | 0 => .array .int
  | 1 => .array .int
  | 2 => .array .int
  | _ => .int
theorem nmX3 : ∀ a, a < 4 → ∀ b, b < 4 → a ≠ b → (TX3 a).2.1 ≠ (TX3 b).2.1 := by decide +kernel
theorem tyX3_ok : ∀ k, k < 4 → parseFieldDescriptor (TX3 k).2.2.1 = some (tyX3 k) := by decide +kernel
abbrev cX3_init : ByteArray := prog_5_method_1_code
def yX3_init : MethodName := ⟨RX3, "<init>", "()V"⟩
abbrev cX3_mayBe : ByteArray := prog_5_method_2_code
def yX3_mayBe : MethodName := ⟨RX3, "mayBe", "(III)Z"⟩
abbrev cX3_isFull : ByteArray := prog_5_method_3_code
def yX3_isFull : MethodName := ⟨RX3, "isFull", "()Z"⟩
abbrev cX3_append : ByteArray := prog_5_method_4_code
def yX3_append : MethodName := ⟨RX3, "append", "(III)V"⟩
abbrev cX3_comeOutIn : ByteArray := prog_5_method_5_code
def yX3_comeOutIn : MethodName := ⟨RX3, "comeOutIn", "(LAfternoonChange$Ride;I)Z"⟩
def RX4 : String := "AfternoonChange$StopSets"
def TX4 : u_T := fun k => match k with
  | 0 => ("AfternoonChange$StopSets", "served", "[J", true)
  | 1 => ("AfternoonChange$StopSets", "stamps", "[I", true)
  | 2 => ("AfternoonChange$StopSets", "stamp", "I", false)
  | _ => ("AfternoonChange$StopSets", "useful", "I", false)
def tyX4 : Nat → FieldType := fun k => match k with
  | 0 => .array .long
  | 1 => .array .int
  | 2 => .int
  | _ => .int
theorem nmX4 : ∀ a, a < 4 → ∀ b, b < 4 → a ≠ b → (TX4 a).2.1 ≠ (TX4 b).2.1 := by decide +kernel
theorem tyX4_ok : ∀ k, k < 4 → parseFieldDescriptor (TX4 k).2.2.1 = some (tyX4 k) := by decide +kernel
abbrev cX4_init : ByteArray := prog_6_method_1_code
def yX4_init : MethodName := ⟨RX4, "<init>", "()V"⟩
abbrev cX4_startAnew : ByteArray := prog_6_method_2_code
def yX4_startAnew : MethodName := ⟨RX4, "startAnew", "(LAfternoonChange$Told;)V"⟩
abbrev cX4_servedBy : ByteArray := prog_6_method_3_code
def yX4_servedBy : MethodName := ⟨RX4, "servedBy", "(IILAfternoonChange$Ride;)I"⟩
def RX5 : String := "AfternoonChange$Text"
def TX5 : u_T := fun k => match k with
  | 0 => ("AfternoonChange$Text", "bytes", "[I", true)
  | _ => ("AfternoonChange$Text", "size", "I", false)
def tyX5 : Nat → FieldType := fun k => match k with
  | 0 => .array .int
  | _ => .int
theorem nmX5 : ∀ a, a < 2 → ∀ b, b < 2 → a ≠ b → (TX5 a).2.1 ≠ (TX5 b).2.1 := by decide +kernel
theorem tyX5_ok : ∀ k, k < 2 → parseFieldDescriptor (TX5 k).2.2.1 = some (tyX5 k) := by decide +kernel
abbrev cX5_init : ByteArray := prog_7_method_1_code
def yX5_init : MethodName := ⟨RX5, "<init>", "(I)V"⟩
abbrev cX5_isFull : ByteArray := prog_7_method_2_code
def yX5_isFull : MethodName := ⟨RX5, "isFull", "()Z"⟩
abbrev cX5_append : ByteArray := prog_7_method_3_code
def yX5_append : MethodName := ⟨RX5, "append", "(I)V"⟩
abbrev cX5_faultAsRiders : ByteArray := prog_7_method_4_code
def yX5_faultAsRiders : MethodName := ⟨RX5, "faultAsRiders", "()I"⟩
abbrev cX5_faultAsBag : ByteArray := prog_7_method_5_code
def yX5_faultAsBag : MethodName := ⟨RX5, "faultAsBag", "()I"⟩
abbrev cX5_fitsRider : ByteArray := prog_7_method_6_code
def yX5_fitsRider : MethodName := ⟨RX5, "fitsRider", "(II)Z"⟩
abbrev cX5_kindOf : ByteArray := prog_7_method_7_code
def yX5_kindOf : MethodName := ⟨RX5, "kindOf", "(I)I"⟩
def RX6 : String := "AfternoonChange$Told"
def TX6 : u_T := fun k => match k with
  | 0 => ("AfternoonChange$Told", "riders", "I", false)
  | 1 => ("AfternoonChange$Told", "starts", "[I", true)
  | 2 => ("AfternoonChange$Told", "boards", "[I", true)
  | 3 => ("AfternoonChange$Told", "leaves", "[I", true)
  | 4 => ("AfternoonChange$Told", "wants", "[I", true)
  | 5 => ("AfternoonChange$Told", "aboard", "[I", true)
  | 6 => ("AfternoonChange$Told", "leaving", "[I", true)
  | 7 => ("AfternoonChange$Told", "bag", "LAfternoonChange$Bag;", true)
  | 8 => ("AfternoonChange$Told", "worths", "[I", true)
  | 9 => ("AfternoonChange$Told", "even", "I", false)
  | 10 => ("AfternoonChange$Told", "changes", "I", false)
  | _ => ("AfternoonChange$Told", "forgets", "I", false)
def tyX6 : Nat → FieldType := fun k => match k with
  | 0 => .int
  | 1 => .array .int
  | 2 => .array .int
  | 3 => .array .int
  | 4 => .array .int
  | 5 => .array .int
  | 6 => .array .int
  | 7 => .object "AfternoonChange$Bag"
  | 8 => .array .int
  | 9 => .int
  | 10 => .int
  | _ => .int
theorem nmX6 : ∀ a, a < 12 → ∀ b, b < 12 → a ≠ b → (TX6 a).2.1 ≠ (TX6 b).2.1 := by decide +kernel
theorem tyX6_ok : ∀ k, k < 12 → parseFieldDescriptor (TX6 k).2.2.1 = some (tyX6 k) := by decide +kernel
abbrev cX6_init : ByteArray := prog_8_method_1_code
def yX6_init : MethodName := ⟨RX6, "<init>", "()V"⟩
abbrev cX6_readRiders : ByteArray := prog_8_method_2_code
def yX6_readRiders : MethodName := ⟨RX6, "readRiders", "(LAfternoonChange$Text;)V"⟩
abbrev cX6_placeOnBoard : ByteArray := prog_8_method_3_code
def yX6_placeOnBoard : MethodName := ⟨RX6, "placeOnBoard", "(I)V"⟩
abbrev cX6_readBag : ByteArray := prog_8_method_4_code
def yX6_readBag : MethodName := ⟨RX6, "readBag", "(LAfternoonChange$Text;)V"⟩
abbrev cX6_mayChange : ByteArray := prog_8_method_5_code
def yX6_mayChange : MethodName := ⟨RX6, "mayChange", "(III)Z"⟩
abbrev cX6_isRing : ByteArray := prog_8_method_6_code
def yX6_isRing : MethodName := ⟨RX6, "isRing", "(III)Z"⟩
def RX7 : String := "AfternoonChange"
def TX7 : u_T := fun k => match k with
  | 0 => ("AfternoonChange", "texts", "[LAfternoonChange$Text;", true)
  | 1 => ("AfternoonChange", "told", "LAfternoonChange$Told;", true)
  | 2 => ("AfternoonChange", "ride", "LAfternoonChange$Ride;", true)
  | 3 => ("AfternoonChange", "trial", "LAfternoonChange$Ride;", true)
  | 4 => ("AfternoonChange", "stopSets", "LAfternoonChange$StopSets;", true)
  | 5 => ("AfternoonChange", "sightings", "LAfternoonChange$Sightings;", true)
  | 6 => ("AfternoonChange", "sheets", "[LAfternoonChange$Sheet;", true)
  | 7 => ("AfternoonChange", "alike", "[[I", true)
  | 8 => ("AfternoonChange", "setsBySize", "[I", true)
  | _ => ("AfternoonChange", "latestFinding", "I", false)
def tyX7 : Nat → FieldType := fun k => match k with
  | 0 => .array (.object "AfternoonChange$Text")
  | 1 => .object "AfternoonChange$Told"
  | 2 => .object "AfternoonChange$Ride"
  | 3 => .object "AfternoonChange$Ride"
  | 4 => .object "AfternoonChange$StopSets"
  | 5 => .object "AfternoonChange$Sightings"
  | 6 => .array (.object "AfternoonChange$Sheet")
  | 7 => .array (.array .int)
  | 8 => .array .int
  | _ => .int
theorem nmX7 : ∀ a, a < 10 → ∀ b, b < 10 → a ≠ b → (TX7 a).2.1 ≠ (TX7 b).2.1 := by decide +kernel
theorem tyX7_ok : ∀ k, k < 10 → parseFieldDescriptor (TX7 k).2.2.1 = some (tyX7 k) := by decide +kernel
abbrev cX7_init : ByteArray := prog_1_method_1_code
def yX7_init : MethodName := ⟨RX7, "<init>", "()V"⟩
abbrev cX7_type : ByteArray := prog_1_method_2_code
def yX7_type : MethodName := ⟨RX7, "type", "(II)I"⟩
abbrev cX7_wipe : ByteArray := prog_1_method_3_code
def yX7_wipe : MethodName := ⟨RX7, "wipe", "(I)I"⟩
abbrev cX7_undo : ByteArray := prog_1_method_4_code
def yX7_undo : MethodName := ⟨RX7, "undo", "(I)I"⟩
abbrev cX7_fault : ByteArray := prog_1_method_5_code
def yX7_fault : MethodName := ⟨RX7, "fault", "(I)I"⟩
abbrev cX7_rider : ByteArray := prog_1_method_6_code
def yX7_rider : MethodName := ⟨RX7, "rider", "(II)I"⟩
abbrev cX7_worth : ByteArray := prog_1_method_7_code
def yX7_worth : MethodName := ⟨RX7, "worth", "(II)I"⟩
abbrev cX7_set : ByteArray := prog_1_method_8_code
def yX7_set : MethodName := ⟨RX7, "set", "(II)I"⟩
abbrev cX7_has : ByteArray := prog_1_method_9_code
def yX7_has : MethodName := ⟨RX7, "has", "(II)I"⟩
abbrev cX7_torn : ByteArray := prog_1_method_10_code
def yX7_torn : MethodName := ⟨RX7, "torn", "(II)I"⟩
abbrev cX7_bag : ByteArray := prog_1_method_11_code
def yX7_bag : MethodName := ⟨RX7, "bag", "(II)I"⟩
abbrev cX7_gets : ByteArray := prog_1_method_12_code
def yX7_gets : MethodName := ⟨RX7, "gets", "(I)I"⟩
abbrev cX7_first : ByteArray := prog_1_method_13_code
def yX7_first : MethodName := ⟨RX7, "first", "(I)I"⟩
abbrev cX7_still : ByteArray := prog_1_method_14_code
def yX7_still : MethodName := ⟨RX7, "still", "()I"⟩
abbrev cX7_served : ByteArray := prog_1_method_15_code
def yX7_served : MethodName := ⟨RX7, "served", "(I)I"⟩
abbrev cX7_rings : ByteArray := prog_1_method_16_code
def yX7_rings : MethodName := ⟨RX7, "rings", "(I)I"⟩
abbrev cX7_open : ByteArray := prog_1_method_17_code
def yX7_open : MethodName := ⟨RX7, "open", "(II)I"⟩
abbrev cX7_least : ByteArray := prog_1_method_18_code
def yX7_least : MethodName := ⟨RX7, "least", "(I)I"⟩
abbrev cX7_top : ByteArray := prog_1_method_19_code
def yX7_top : MethodName := ⟨RX7, "top", "(I)I"⟩
abbrev cX7_seen : ByteArray := prog_1_method_20_code
def yX7_seen : MethodName := ⟨RX7, "seen", "(III)I"⟩
abbrev cX7_forget : ByteArray := prog_1_method_21_code
def yX7_forget : MethodName := ⟨RX7, "forget", "()I"⟩
abbrev cX7_read : ByteArray := prog_1_method_22_code
def yX7_read : MethodName := ⟨RX7, "read", "(I)I"⟩
abbrev cX7_had : ByteArray := prog_1_method_23_code
def yX7_had : MethodName := ⟨RX7, "had", "(I)I"⟩
abbrev cX7_was : ByteArray := prog_1_method_24_code
def yX7_was : MethodName := ⟨RX7, "was", "()I"⟩
abbrev cX7_ask : ByteArray := prog_1_method_25_code
def yX7_ask : MethodName := ⟨RX7, "ask", "(I)I"⟩
abbrev cX7_maybe : ByteArray := prog_1_method_26_code
def yX7_maybe : MethodName := ⟨RX7, "maybe", "(IIII)J"⟩
abbrev cX7_depot : ByteArray := prog_1_method_27_code
def yX7_depot : MethodName := ⟨RX7, "depot", "(III)I"⟩
abbrev cX7_sheet : ByteArray := prog_1_method_28_code
def yX7_sheet : MethodName := ⟨RX7, "sheet", "(III)I"⟩
abbrev cX7_lose : ByteArray := prog_1_method_29_code
def yX7_lose : MethodName := ⟨RX7, "lose", "(I)I"⟩
abbrev cX7_lay : ByteArray := prog_1_method_30_code
def yX7_lay : MethodName := ⟨RX7, "lay", "(IIII)I"⟩
abbrev cX7_get : ByteArray := prog_1_method_31_code
def yX7_get : MethodName := ⟨RX7, "get", "(III)I"⟩
abbrev cX7_copy : ByteArray := prog_1_method_32_code
def yX7_copy : MethodName := ⟨RX7, "copy", "(IIIII)I"⟩
abbrev cX7_write : ByteArray := prog_1_method_33_code
def yX7_write : MethodName := ⟨RX7, "write", "(II)I"⟩
abbrev cX7_count : ByteArray := prog_1_method_34_code
def yX7_count : MethodName := ⟨RX7, "count", "(I)I"⟩
abbrev cX7_digest : ByteArray := prog_1_method_35_code
def yX7_digest : MethodName := ⟨RX7, "digest", "()J"⟩
abbrev cX7_isOutside : ByteArray := prog_1_method_36_code
def yX7_isOutside : MethodName := ⟨RX7, "isOutside", "(II)Z"⟩
abbrev cX7_mix : ByteArray := prog_1_method_37_code
def yX7_mix : MethodName := ⟨RX7, "mix", "(JJ)J"⟩
abbrev cX7_tellAnew : ByteArray := prog_1_method_38_code
def yX7_tellAnew : MethodName := ⟨RX7, "tellAnew", "()V"⟩
abbrev cX7_tellEven : ByteArray := prog_1_method_39_code
def yX7_tellEven : MethodName := ⟨RX7, "tellEven", "(I)I"⟩
abbrev cX7_tellChanges : ByteArray := prog_1_method_40_code
def yX7_tellChanges : MethodName := ⟨RX7, "tellChanges", "(I)I"⟩
abbrev cX7_tellForgets : ByteArray := prog_1_method_41_code
def yX7_tellForgets : MethodName := ⟨RX7, "tellForgets", "(I)I"⟩
abbrev cX7_rideWithEven : ByteArray := prog_1_method_42_code
def yX7_rideWithEven : MethodName := ⟨RX7, "rideWithEven", "(I)V"⟩
abbrev cX7_clearAlike : ByteArray := prog_1_method_43_code
def yX7_clearAlike : MethodName := ⟨RX7, "clearAlike", "()V"⟩
abbrev cX7_countAlike : ByteArray := prog_1_method_44_code
def yX7_countAlike : MethodName := ⟨RX7, "countAlike", "(I)V"⟩
abbrev cX7_greatestOf : ByteArray := prog_1_method_45_code
def yX7_greatestOf : MethodName := ⟨RX7, "greatestOf", "([I)I"⟩
abbrev cX7_chanceAbove : ByteArray := prog_1_method_46_code
def yX7_chanceAbove : MethodName := ⟨RX7, "chanceAbove", "(II)J"⟩
abbrev cX7_finding : ByteArray := prog_1_method_47_code
def yX7_finding : MethodName := ⟨RX7, "finding", "(I)I"⟩
abbrev cX7_refusalOfItem : ByteArray := prog_1_method_48_code
def yX7_refusalOfItem : MethodName := ⟨RX7, "refusalOfItem", "(III)I"⟩
def RX8 : String := "AfternoonChangeModel"
def TX8 : u_T := fun k => match k with
  | 0 => ("AfternoonChangeModel", "forms", "[I", true)
  | 1 => ("AfternoonChangeModel", "sizes", "[I", true)
  | 2 => ("AfternoonChangeModel", "items", "[I", true)
  | 3 => ("AfternoonChangeModel", "moved", "[I", true)
  | 4 => ("AfternoonChangeModel", "latest", "I", false)
  | 5 => ("AfternoonChangeModel", "bytes", "[I", true)
  | 6 => ("AfternoonChangeModel", "typed", "[I", true)
  | 7 => ("AfternoonChangeModel", "riders", "I", false)
  | 8 => ("AfternoonChangeModel", "rider", "[I", true)
  | 9 => ("AfternoonChangeModel", "bagged", "I", false)
  | 10 => ("AfternoonChangeModel", "bagAt", "[I", true)
  | 11 => ("AfternoonChangeModel", "worths", "[I", true)
  | 12 => ("AfternoonChangeModel", "settings", "[I", true)
  | 13 => ("AfternoonChangeModel", "top", "I", false)
  | 14 => ("AfternoonChangeModel", "has", "[I", true)
  | 15 => ("AfternoonChangeModel", "isTorn", "[I", true)
  | 16 => ("AfternoonChangeModel", "board", "I", false)
  | 17 => ("AfternoonChangeModel", "many", "I", false)
  | 18 => ("AfternoonChangeModel", "bag", "[I", true)
  | 19 => ("AfternoonChangeModel", "hasBy", "[I", true)
  | 20 => ("AfternoonChangeModel", "tornBy", "[I", true)
  | 21 => ("AfternoonChangeModel", "manyBy", "[I", true)
  | 22 => ("AfternoonChangeModel", "bagBy", "[I", true)
  | 23 => ("AfternoonChangeModel", "first", "[I", true)
  | 24 => ("AfternoonChangeModel", "changes", "I", false)
  | 25 => ("AfternoonChangeModel", "still", "I", false)
  | 26 => ("AfternoonChangeModel", "sights", "I", false)
  | 27 => ("AfternoonChangeModel", "sight", "[I", true)
  | 28 => ("AfternoonChangeModel", "alike", "[I", true)
  | _ => ("AfternoonChangeModel", "drawn", "I", false)
def tyX8 : Nat → FieldType := fun k => match k with
  | 0 => .array .int
  | 1 => .array .int
  | 2 => .array .int
  | 3 => .array .int
  | 4 => .int
  | 5 => .array .int
  | 6 => .array .int
  | 7 => .int
  | 8 => .array .int
  | 9 => .int
  | 10 => .array .int
  | 11 => .array .int
  | 12 => .array .int
  | 13 => .int
  | 14 => .array .int
  | 15 => .array .int
  | 16 => .int
  | 17 => .int
  | 18 => .array .int
  | 19 => .array .int
  | 20 => .array .int
  | 21 => .array .int
  | 22 => .array .int
  | 23 => .array .int
  | 24 => .int
  | 25 => .int
  | 26 => .int
  | 27 => .array .int
  | 28 => .array .int
  | _ => .int
theorem nmX8 : ∀ a, a < 30 → ∀ b, b < 30 → a ≠ b → (TX8 a).2.1 ≠ (TX8 b).2.1 := by decide +kernel
theorem tyX8_ok : ∀ k, k < 30 → parseFieldDescriptor (TX8 k).2.2.1 = some (tyX8 k) := by decide +kernel
abbrev cX8_init : ByteArray := prog_10_method_1_code
def yX8_init : MethodName := ⟨RX8, "<init>", "()V"⟩
abbrev cX8_in : ByteArray := prog_10_method_3_code
def yX8_in : MethodName := ⟨RX8, "in", "(JJJ)Z"⟩
abbrev cX8_no : ByteArray := prog_10_method_4_code
def yX8_no : MethodName := ⟨RX8, "no", "(I)J"⟩
abbrev cX8_isTwo : ByteArray := prog_10_method_5_code
def yX8_isTwo : MethodName := ⟨RX8, "isTwo", "(I)Z"⟩
abbrev cX8_isIn : ByteArray := prog_10_method_6_code
def yX8_isIn : MethodName := ⟨RX8, "isIn", "(II)Z"⟩
abbrev cX8_ones : ByteArray := prog_10_method_7_code
def yX8_ones : MethodName := ⟨RX8, "ones", "(I)I"⟩
abbrev cX8_lesser : ByteArray := prog_10_method_8_code
def yX8_lesser : MethodName := ⟨RX8, "lesser", "(II)I"⟩
abbrev cX8_greater : ByteArray := prog_10_method_9_code
def yX8_greater : MethodName := ⟨RX8, "greater", "(II)I"⟩
abbrev cX8_part : ByteArray := prog_10_method_10_code
def yX8_part : MethodName := ⟨RX8, "part", "(JJI)J"⟩
abbrev cX8_finds : ByteArray := prog_10_method_11_code
def yX8_finds : MethodName := ⟨RX8, "finds", "(I)I"⟩
abbrev cX8_isSheet : ByteArray := prog_10_method_12_code
def yX8_isSheet : MethodName := ⟨RX8, "isSheet", "(I)Z"⟩
abbrev cX8_sheet : ByteArray := prog_10_method_13_code
def yX8_sheet : MethodName := ⟨RX8, "sheet", "(III)I"⟩
abbrev cX8_lose : ByteArray := prog_10_method_14_code
def yX8_lose : MethodName := ⟨RX8, "lose", "(I)I"⟩
abbrev cX8_lacks : ByteArray := prog_10_method_15_code
def yX8_lacks : MethodName := ⟨RX8, "lacks", "(III)I"⟩
abbrev cX8_cut : ByteArray := prog_10_method_16_code
def yX8_cut : MethodName := ⟨RX8, "cut", "(II)I"⟩
abbrev cX8_lay : ByteArray := prog_10_method_17_code
def yX8_lay : MethodName := ⟨RX8, "lay", "(IIII)I"⟩
abbrev cX8_get : ByteArray := prog_10_method_18_code
def yX8_get : MethodName := ⟨RX8, "get", "(III)I"⟩
abbrev cX8_copy : ByteArray := prog_10_method_19_code
def yX8_copy : MethodName := ⟨RX8, "copy", "(IIIII)I"⟩
abbrev cX8_type : ByteArray := prog_10_method_20_code
def yX8_type : MethodName := ⟨RX8, "type", "(II)I"⟩
abbrev cX8_wipe : ByteArray := prog_10_method_21_code
def yX8_wipe : MethodName := ⟨RX8, "wipe", "(I)I"⟩
abbrev cX8_undo : ByteArray := prog_10_method_22_code
def yX8_undo : MethodName := ⟨RX8, "undo", "(I)I"⟩
abbrev cX8_letterOf : ByteArray := prog_10_method_23_code
def yX8_letterOf : MethodName := ⟨RX8, "letterOf", "(I)I"⟩
abbrev cX8_riderOf : ByteArray := prog_10_method_24_code
def yX8_riderOf : MethodName := ⟨RX8, "riderOf", "(II)I"⟩
abbrev cX8_readsRiders : ByteArray := prog_10_method_25_code
def yX8_readsRiders : MethodName := ⟨RX8, "readsRiders", "()I"⟩
abbrev cX8_readsBag : ByteArray := prog_10_method_26_code
def yX8_readsBag : MethodName := ⟨RX8, "readsBag", "()I"⟩
abbrev cX8_fault : ByteArray := prog_10_method_27_code
def yX8_fault : MethodName := ⟨RX8, "fault", "(I)I"⟩
abbrev cX8_isRider : ByteArray := prog_10_method_28_code
def yX8_isRider : MethodName := ⟨RX8, "isRider", "(I)Z"⟩
abbrev cX8_isDay : ByteArray := prog_10_method_29_code
def yX8_isDay : MethodName := ⟨RX8, "isDay", "(I)Z"⟩
abbrev cX8_rider : ByteArray := prog_10_method_30_code
def yX8_rider : MethodName := ⟨RX8, "rider", "(II)I"⟩
abbrev cX8_worth : ByteArray := prog_10_method_31_code
def yX8_worth : MethodName := ⟨RX8, "worth", "(II)I"⟩
abbrev cX8_set : ByteArray := prog_10_method_32_code
def yX8_set : MethodName := ⟨RX8, "set", "(II)I"⟩
abbrev cX8_puts : ByteArray := prog_10_method_33_code
def yX8_puts : MethodName := ⟨RX8, "puts", "(I)V"⟩
abbrev cX8_find : ByteArray := prog_10_method_34_code
def yX8_find : MethodName := ⟨RX8, "find", "(I)I"⟩
abbrev cX8_takes : ByteArray := prog_10_method_35_code
def yX8_takes : MethodName := ⟨RX8, "takes", "(I)V"⟩
abbrev cX8_may : ByteArray := prog_10_method_36_code
def yX8_may : MethodName := ⟨RX8, "may", "(I)Z"⟩
abbrev cX8_other : ByteArray := prog_10_method_37_code
def yX8_other : MethodName := ⟨RX8, "other", "(I)I"⟩
abbrev cX8_gives : ByteArray := prog_10_method_38_code
def yX8_gives : MethodName := ⟨RX8, "gives", "(II)V"⟩
abbrev cX8_changesOne : ByteArray := prog_10_method_39_code
def yX8_changesOne : MethodName := ⟨RX8, "changesOne", "(I)Z"⟩
abbrev cX8_stops : ByteArray := prog_10_method_40_code
def yX8_stops : MethodName := ⟨RX8, "stops", "(II)V"⟩
abbrev cX8_keeps : ByteArray := prog_10_method_41_code
def yX8_keeps : MethodName := ⟨RX8, "keeps", "(I)V"⟩
abbrev cX8_begins : ByteArray := prog_10_method_42_code
def yX8_begins : MethodName := ⟨RX8, "begins", "()V"⟩
abbrev cX8_lives : ByteArray := prog_10_method_43_code
def yX8_lives : MethodName := ⟨RX8, "lives", "()V"⟩
abbrev cX8_reads : ByteArray := prog_10_method_44_code
def yX8_reads : MethodName := ⟨RX8, "reads", "()V"⟩
abbrev cX8_has : ByteArray := prog_10_method_45_code
def yX8_has : MethodName := ⟨RX8, "has", "(II)I"⟩
abbrev cX8_torn : ByteArray := prog_10_method_46_code
def yX8_torn : MethodName := ⟨RX8, "torn", "(II)I"⟩
abbrev cX8_bagOf : ByteArray := prog_10_method_47_code
def yX8_bagOf : MethodName := ⟨RX8, "bagOf", "(II)I"⟩
abbrev cX8_bag : ByteArray := prog_10_method_48_code
def yX8_bag : MethodName := ⟨RX8, "bag", "(II)I"⟩
abbrev cX8_isServed : ByteArray := prog_10_method_49_code
def yX8_isServed : MethodName := ⟨RX8, "isServed", "(II)Z"⟩
abbrev cX8_getsOf : ByteArray := prog_10_method_50_code
def yX8_getsOf : MethodName := ⟨RX8, "getsOf", "(I)I"⟩
abbrev cX8_gets : ByteArray := prog_10_method_51_code
def yX8_gets : MethodName := ⟨RX8, "gets", "(I)I"⟩
abbrev cX8_first : ByteArray := prog_10_method_52_code
def yX8_first : MethodName := ⟨RX8, "first", "(I)I"⟩
abbrev cX8_still : ByteArray := prog_10_method_53_code
def yX8_still : MethodName := ⟨RX8, "still", "()I"⟩
abbrev cX8_servedBy : ByteArray := prog_10_method_54_code
def yX8_servedBy : MethodName := ⟨RX8, "servedBy", "(I)I"⟩
abbrev cX8_served : ByteArray := prog_10_method_55_code
def yX8_served : MethodName := ⟨RX8, "served", "(I)I"⟩
abbrev cX8_wantsOf : ByteArray := prog_10_method_56_code
def yX8_wantsOf : MethodName := ⟨RX8, "wantsOf", "(II)Z"⟩
abbrev cX8_isRing : ByteArray := prog_10_method_57_code
def yX8_isRing : MethodName := ⟨RX8, "isRing", "(III)Z"⟩
abbrev cX8_ringsNow : ByteArray := prog_10_method_58_code
def yX8_ringsNow : MethodName := ⟨RX8, "ringsNow", "(I)I"⟩
abbrev cX8_rings : ByteArray := prog_10_method_59_code
def yX8_rings : MethodName := ⟨RX8, "rings", "(I)I"⟩
abbrev cX8_openOf : ByteArray := prog_10_method_60_code
def yX8_openOf : MethodName := ⟨RX8, "openOf", "(II)I"⟩
abbrev cX8_open : ByteArray := prog_10_method_61_code
def yX8_open : MethodName := ⟨RX8, "open", "(II)I"⟩
abbrev cX8_leastOf : ByteArray := prog_10_method_62_code
def yX8_leastOf : MethodName := ⟨RX8, "leastOf", "(I)I"⟩
abbrev cX8_least : ByteArray := prog_10_method_63_code
def yX8_least : MethodName := ⟨RX8, "least", "(I)I"⟩
abbrev cX8_topOf : ByteArray := prog_10_method_64_code
def yX8_topOf : MethodName := ⟨RX8, "topOf", "(I)I"⟩
abbrev cX8_top : ByteArray := prog_10_method_65_code
def yX8_top : MethodName := ⟨RX8, "top", "(I)I"⟩
abbrev cX8_seen : ByteArray := prog_10_method_66_code
def yX8_seen : MethodName := ⟨RX8, "seen", "(III)I"⟩
abbrev cX8_forget : ByteArray := prog_10_method_67_code
def yX8_forget : MethodName := ⟨RX8, "forget", "()I"⟩
abbrev cX8_read : ByteArray := prog_10_method_68_code
def yX8_read : MethodName := ⟨RX8, "read", "(I)I"⟩
abbrev cX8_isSeen : ByteArray := prog_10_method_69_code
def yX8_isSeen : MethodName := ⟨RX8, "isSeen", "()Z"⟩
abbrev cX8_hadOf : ByteArray := prog_10_method_70_code
def yX8_hadOf : MethodName := ⟨RX8, "hadOf", "(I)I"⟩
abbrev cX8_had : ByteArray := prog_10_method_71_code
def yX8_had : MethodName := ⟨RX8, "had", "(I)I"⟩
abbrev cX8_wasNow : ByteArray := prog_10_method_72_code
def yX8_wasNow : MethodName := ⟨RX8, "wasNow", "()I"⟩
abbrev cX8_was : ByteArray := prog_10_method_73_code
def yX8_was : MethodName := ⟨RX8, "was", "()I"⟩
abbrev cX8_askOf : ByteArray := prog_10_method_74_code
def yX8_askOf : MethodName := ⟨RX8, "askOf", "(I)I"⟩
abbrev cX8_ask : ByteArray := prog_10_method_75_code
def yX8_ask : MethodName := ⟨RX8, "ask", "(I)I"⟩
abbrev cX8_maybeOf : ByteArray := prog_10_method_76_code
def yX8_maybeOf : MethodName := ⟨RX8, "maybeOf", "(IIII)J"⟩
abbrev cX8_maybe : ByteArray := prog_10_method_77_code
def yX8_maybe : MethodName := ⟨RX8, "maybe", "(IIII)J"⟩
abbrev cX8_lot : ByteArray := prog_10_method_78_code
def yX8_lot : MethodName := ⟨RX8, "lot", "(I)I"⟩
abbrev cX8_depotOf : ByteArray := prog_10_method_79_code
def yX8_depotOf : MethodName := ⟨RX8, "depotOf", "(III)I"⟩
abbrev cX8_depot : ByteArray := prog_10_method_80_code
def yX8_depot : MethodName := ⟨RX8, "depot", "(III)I"⟩
abbrev cX8_write : ByteArray := prog_10_method_81_code
def yX8_write : MethodName := ⟨RX8, "write", "(II)I"⟩
abbrev cX8_count : ByteArray := prog_10_method_82_code
def yX8_count : MethodName := ⟨RX8, "count", "(I)I"⟩
abbrev cX8_tellsRider : ByteArray := prog_10_method_83_code
def yX8_tellsRider : MethodName := ⟨RX8, "tellsRider", "(JI)J"⟩
abbrev cX8_tellsDay : ByteArray := prog_10_method_84_code
def yX8_tellsDay : MethodName := ⟨RX8, "tellsDay", "(JI)J"⟩
abbrev cX8_digest : ByteArray := prog_10_method_85_code
def yX8_digest : MethodName := ⟨RX8, "digest", "()J"⟩
def RJ6 : String := "java/lang/Integer"
def TJ6 : u_T := fun k => match k with
  | _ => ("", "", "", false)
def tyJ6 : Nat → FieldType := fun k => match k with
  | _ => .int
theorem nmJ6 : ∀ a, a < 0 → ∀ b, b < 0 → a ≠ b → (TJ6 a).2.1 ≠ (TJ6 b).2.1 := by decide +kernel
theorem tyJ6_ok : ∀ k, k < 0 → parseFieldDescriptor (TJ6 k).2.2.1 = some (tyJ6 k) := by decide +kernel
abbrev cJ6_bitCount_0f7a4 : ByteArray := prog_11_method_49_code
def yJ6_bitCount_0f7a4 : MethodName := ⟨RJ6, "bitCount", "(I)I"⟩
def RJ9 : String := "java/lang/Math"
def TJ9 : u_T := fun k => match k with
  | _ => ("", "", "", false)
def tyJ9 : Nat → FieldType := fun k => match k with
  | _ => .int
theorem nmJ9 : ∀ a, a < 0 → ∀ b, b < 0 → a ≠ b → (TJ9 a).2.1 ≠ (TJ9 b).2.1 := by decide +kernel
theorem tyJ9_ok : ∀ k, k < 0 → parseFieldDescriptor (TJ9 k).2.2.1 = some (tyJ9 k) := by decide +kernel
abbrev cJ9_max_7cf53 : ByteArray := prog_12_method_65_code
def yJ9_max_7cf53 : MethodName := ⟨RJ9, "max", "(II)I"⟩
abbrev cJ9_min_7cf53 : ByteArray := prog_12_method_69_code
def yJ9_min_7cf53 : MethodName := ⟨RJ9, "min", "(II)I"⟩
def RJ10 : String := "java/lang/System"
def TJ10 : u_T := fun k => match k with
  | _ => ("", "", "", false)
def tyJ10 : Nat → FieldType := fun k => match k with
  | _ => .int
theorem nmJ10 : ∀ a, a < 0 → ∀ b, b < 0 → a ≠ b → (TJ10 a).2.1 ≠ (TJ10 b).2.1 := by decide +kernel
theorem tyJ10_ok : ∀ k, k < 0 → parseFieldDescriptor (TJ10 k).2.2.1 = some (tyJ10 k) := by decide +kernel
def RJ7 : String := "java/util/Arrays"
def TJ7 : u_T := fun k => match k with
  | _ => ("", "", "", false)
def tyJ7 : Nat → FieldType := fun k => match k with
  | _ => .int
theorem nmJ7 : ∀ a, a < 0 → ∀ b, b < 0 → a ≠ b → (TJ7 a).2.1 ≠ (TJ7 b).2.1 := by decide +kernel
theorem tyJ7_ok : ∀ k, k < 0 → parseFieldDescriptor (TJ7 k).2.2.1 = some (tyJ7 k) := by decide +kernel
abbrev cJ7_fill_53178 : ByteArray := prog_14_method_103_code
def yJ7_fill_53178 : MethodName := ⟨RJ7, "fill", "([II)V"⟩
def RL : String := "AfternoonChangeLaw"
abbrev cL_law : ByteArray := code
def yL_law : MethodName := ⟨RL, "law", "([I)Z"⟩
abbrev vwCl : List vw_C := [(RX0, TX0, 2), (RX1, TX1, 16), (RX2, TX2, 3), (RX3, TX3, 4), (RX4, TX4, 4), (RX5, TX5, 2), (RX6, TX6, 12), (RX7, TX7, 10), (RX8, TX8, 30)]
/-- the tables' good words -/
def gU : List Cond := lw_tbl.filter goodWord
theorem t_1 {i : Nat} {w : Cond} (h : tables_1_1[i]? = some w) (hg : goodWord w = true) : w ∈ gU := List.mem_filter.mpr ⟨List.mem_append_right _ (List.mem_append_left _ (List.mem_of_getElem? h)), hg⟩
theorem t_2 {i : Nat} {w : Cond} (h : tables_1_2[i]? = some w) (hg : goodWord w = true) : w ∈ gU := List.mem_filter.mpr ⟨List.mem_append_right _ (List.mem_append_right _ (List.mem_append_left _ (List.mem_of_getElem? h))), hg⟩
theorem t_3 {i : Nat} {w : Cond} (h : tables_1_3[i]? = some w) (hg : goodWord w = true) : w ∈ gU := List.mem_filter.mpr ⟨List.mem_append_right _ (List.mem_append_right _ (List.mem_append_right _ (List.mem_append_left _ (List.mem_of_getElem? h)))), hg⟩
theorem t_4 {i : Nat} {w : Cond} (h : tables_1_4[i]? = some w) (hg : goodWord w = true) : w ∈ gU := List.mem_filter.mpr ⟨List.mem_append_right _ (List.mem_append_right _ (List.mem_append_right _ (List.mem_append_right _ (List.mem_append_left _ (List.mem_of_getElem? h))))), hg⟩
theorem t_5 {i : Nat} {w : Cond} (h : tables_1_5[i]? = some w) (hg : goodWord w = true) : w ∈ gU := List.mem_filter.mpr ⟨List.mem_append_right _ (List.mem_append_right _ (List.mem_append_right _ (List.mem_append_right _ (List.mem_append_right _ (List.mem_of_getElem? h))))), hg⟩
theorem t_s {i n : Nat} {y : MethodName} (h : lw_privs[i]? = some (y, n)) (hg : goodWord (Cond.selects y.cls y y) = true) : Cond.selects y.cls y y ∈ gU := List.mem_filter.mpr ⟨List.mem_append_left _ (List.mem_map.mpr ⟨(y, n), List.mem_of_getElem? h, rfl⟩), hg⟩
end
section
theorem ml_L_9 : Cond.methodLink RL 9 yX7_init ∈ gU := t_1 (i := 16) rfl rfl
theorem ml_X7_3 : Cond.methodLink RX7 3 objectInit ∈ gU := t_1 (i := 19) rfl rfl
theorem ml_X7_11 : Cond.methodLink RX7 11 yX5_init ∈ gU := t_1 (i := 25) rfl rfl
theorem ml_X5_3 : Cond.methodLink RX5 3 objectInit ∈ gU := t_1 (i := 28) rfl rfl
theorem ml_X5_9 : Cond.methodLink RX5 9 yJ9_max_7cf53 ∈ gU := t_1 (i := 29) rfl rfl
theorem fl_X5_15 : Cond.fieldLink RX5 15 (TX5 0).1 (TX5 0).2.1 (TX5 0).2.2.1 ∈ gU := t_1 (i := 32) rfl rfl
theorem fl_X6_65 : Cond.fieldLink RX6 65 (TX5 0).1 (TX5 0).2.1 (TX5 0).2.2.1 ∈ gU := t_1 (i := 33) rfl rfl
theorem fl_X5_21 : Cond.fieldLink RX5 21 (TX5 1).1 (TX5 1).2.1 (TX5 1).2.2.1 ∈ gU := t_1 (i := 34) rfl rfl
theorem fl_X6_59 : Cond.fieldLink RX6 59 (TX5 1).1 (TX5 1).2.1 (TX5 1).2.2.1 ∈ gU := t_1 (i := 35) rfl rfl
theorem fl_X7_81 : Cond.fieldLink RX7 81 (TX5 1).1 (TX5 1).2.1 (TX5 1).2.2.1 ∈ gU := t_1 (i := 36) rfl rfl
theorem ml_X6_3 : Cond.methodLink RX6 3 objectInit ∈ gU := t_1 (i := 48) rfl rfl
theorem ml_X0_3 : Cond.methodLink RX0 3 objectInit ∈ gU := t_1 (i := 54) rfl rfl
theorem fl_X0_9 : Cond.fieldLink RX0 9 (TX0 0).1 (TX0 0).2.1 (TX0 0).2.2.1 ∈ gU := t_1 (i := 55) rfl rfl
theorem fl_X7_134 : Cond.fieldLink RX7 134 (TX0 0).1 (TX0 0).2.1 (TX0 0).2.2.1 ∈ gU := t_1 (i := 56) rfl rfl
theorem fl_X0_15 : Cond.fieldLink RX0 15 (TX0 1).1 (TX0 1).2.1 (TX0 1).2.2.1 ∈ gU := t_1 (i := 57) rfl rfl
theorem fl_X6_72 : Cond.fieldLink RX6 72 (TX0 1).1 (TX0 1).2.1 (TX0 1).2.2.1 ∈ gU := t_1 (i := 58) rfl rfl
theorem fl_X7_131 : Cond.fieldLink RX7 131 (TX0 1).1 (TX0 1).2.1 (TX0 1).2.2.1 ∈ gU := t_1 (i := 59) rfl rfl
theorem fl_X4_26 : Cond.fieldLink RX4 26 (TX6 0).1 (TX6 0).2.1 (TX6 0).2.2.1 ∈ gU := t_1 (i := 65) rfl rfl
theorem fl_X6_62 : Cond.fieldLink RX6 62 (TX6 0).1 (TX6 0).2.1 (TX6 0).2.2.1 ∈ gU := t_1 (i := 66) rfl rfl
theorem fl_X1_102 : Cond.fieldLink RX1 102 (TX6 0).1 (TX6 0).2.1 (TX6 0).2.2.1 ∈ gU := t_1 (i := 67) rfl rfl
theorem fl_X7_92 : Cond.fieldLink RX7 92 (TX6 0).1 (TX6 0).2.1 (TX6 0).2.2.1 ∈ gU := t_1 (i := 68) rfl rfl
theorem fl_X6_9 : Cond.fieldLink RX6 9 (TX6 1).1 (TX6 1).2.1 (TX6 1).2.2.1 ∈ gU := t_1 (i := 69) rfl rfl
theorem fl_X1_52 : Cond.fieldLink RX1 52 (TX6 1).1 (TX6 1).2.1 (TX6 1).2.2.1 ∈ gU := t_1 (i := 70) rfl rfl
theorem fl_X4_31 : Cond.fieldLink RX4 31 (TX6 1).1 (TX6 1).2.1 (TX6 1).2.2.1 ∈ gU := t_1 (i := 71) rfl rfl
theorem fl_X7_95 : Cond.fieldLink RX7 95 (TX6 1).1 (TX6 1).2.1 (TX6 1).2.2.1 ∈ gU := t_1 (i := 72) rfl rfl
theorem fl_X6_15 : Cond.fieldLink RX6 15 (TX6 2).1 (TX6 2).2.1 (TX6 2).2.2.1 ∈ gU := t_1 (i := 73) rfl rfl
theorem fl_X7_98 : Cond.fieldLink RX7 98 (TX6 2).1 (TX6 2).2.1 (TX6 2).2.2.1 ∈ gU := t_1 (i := 74) rfl rfl
theorem fl_X6_18 : Cond.fieldLink RX6 18 (TX6 3).1 (TX6 3).2.1 (TX6 3).2.2.1 ∈ gU := t_1 (i := 75) rfl rfl
theorem fl_X7_101 : Cond.fieldLink RX7 101 (TX6 3).1 (TX6 3).2.1 (TX6 3).2.2.1 ∈ gU := t_1 (i := 76) rfl rfl
theorem fl_X6_21 : Cond.fieldLink RX6 21 (TX6 4).1 (TX6 4).2.1 (TX6 4).2.2.1 ∈ gU := t_1 (i := 77) rfl rfl
theorem fl_X1_122 : Cond.fieldLink RX1 122 (TX6 4).1 (TX6 4).2.1 (TX6 4).2.2.1 ∈ gU := t_1 (i := 78) rfl rfl
theorem fl_X7_104 : Cond.fieldLink RX7 104 (TX6 4).1 (TX6 4).2.1 (TX6 4).2.2.1 ∈ gU := t_1 (i := 79) rfl rfl
theorem fl_X6_24 : Cond.fieldLink RX6 24 (TX6 5).1 (TX6 5).2.1 (TX6 5).2.2.1 ∈ gU := t_1 (i := 80) rfl rfl
theorem fl_X4_41 : Cond.fieldLink RX4 41 (TX6 5).1 (TX6 5).2.1 (TX6 5).2.2.1 ∈ gU := t_1 (i := 81) rfl rfl
theorem fl_X1_108 : Cond.fieldLink RX1 108 (TX6 5).1 (TX6 5).2.1 (TX6 5).2.2.1 ∈ gU := t_1 (i := 82) rfl rfl
theorem fl_X6_27 : Cond.fieldLink RX6 27 (TX6 6).1 (TX6 6).2.1 (TX6 6).2.2.1 ∈ gU := t_1 (i := 83) rfl rfl
theorem fl_X1_96 : Cond.fieldLink RX1 96 (TX6 6).1 (TX6 6).2.1 (TX6 6).2.2.1 ∈ gU := t_1 (i := 84) rfl rfl
theorem fl_X6_33 : Cond.fieldLink RX6 33 (TX6 7).1 (TX6 7).2.1 (TX6 7).2.2.1 ∈ gU := t_1 (i := 85) rfl rfl
theorem fl_X1_61 : Cond.fieldLink RX1 61 (TX6 7).1 (TX6 7).2.1 (TX6 7).2.2.1 ∈ gU := t_1 (i := 86) rfl rfl
theorem fl_X7_274 : Cond.fieldLink RX7 274 (TX6 7).1 (TX6 7).2.1 (TX6 7).2.2.1 ∈ gU := t_1 (i := 87) rfl rfl
theorem fl_X6_37 : Cond.fieldLink RX6 37 (TX6 8).1 (TX6 8).2.1 (TX6 8).2.2.1 ∈ gU := t_1 (i := 88) rfl rfl
theorem fl_X7_107 : Cond.fieldLink RX7 107 (TX6 8).1 (TX6 8).2.1 (TX6 8).2.2.1 ∈ gU := t_1 (i := 89) rfl rfl
theorem fl_X6_40 : Cond.fieldLink RX6 40 (TX6 9).1 (TX6 9).2.1 (TX6 9).2.2.1 ∈ gU := t_1 (i := 90) rfl rfl
theorem fl_X1_41 : Cond.fieldLink RX1 41 (TX6 9).1 (TX6 9).2.1 (TX6 9).2.2.1 ∈ gU := t_1 (i := 91) rfl rfl
theorem fl_X4_34 : Cond.fieldLink RX4 34 (TX6 9).1 (TX6 9).2.1 (TX6 9).2.2.1 ∈ gU := t_1 (i := 92) rfl rfl
theorem fl_X7_354 : Cond.fieldLink RX7 354 (TX6 9).1 (TX6 9).2.1 (TX6 9).2.2.1 ∈ gU := t_1 (i := 93) rfl rfl
theorem fl_X6_44 : Cond.fieldLink RX6 44 (TX6 10).1 (TX6 10).2.1 (TX6 10).2.2.1 ∈ gU := t_1 (i := 94) rfl rfl
theorem fl_X1_48 : Cond.fieldLink RX1 48 (TX6 10).1 (TX6 10).2.1 (TX6 10).2.2.1 ∈ gU := t_1 (i := 95) rfl rfl
theorem fl_X7_229 : Cond.fieldLink RX7 229 (TX6 10).1 (TX6 10).2.1 (TX6 10).2.2.1 ∈ gU := t_1 (i := 96) rfl rfl
theorem fl_X1_99 : Cond.fieldLink RX1 99 (TX6 11).1 (TX6 11).2.1 (TX6 11).2.2.1 ∈ gU := t_1 (i := 97) rfl rfl
theorem fl_X7_357 : Cond.fieldLink RX7 357 (TX6 11).1 (TX6 11).2.1 (TX6 11).2.2.1 ∈ gU := t_1 (i := 98) rfl rfl
theorem ml_X7_27 : Cond.methodLink RX7 27 yX1_init ∈ gU := t_1 (i := 126) rfl rfl
theorem ml_X1_3 : Cond.methodLink RX1 3 objectInit ∈ gU := t_1 (i := 129) rfl rfl
theorem fl_X1_37 : Cond.fieldLink RX1 37 (TX1 0).1 (TX1 0).2.1 (TX1 0).2.2.1 ∈ gU := t_1 (i := 135) rfl rfl
theorem fl_X1_47 : Cond.fieldLink RX1 47 (TX1 1).1 (TX1 1).2.1 (TX1 1).2.2.1 ∈ gU := t_1 (i := 136) rfl rfl
theorem fl_X7_360 : Cond.fieldLink RX7 360 (TX1 1).1 (TX1 1).2.1 (TX1 1).2.2.1 ∈ gU := t_1 (i := 137) rfl rfl
theorem fl_X1_51 : Cond.fieldLink RX1 51 (TX1 2).1 (TX1 2).2.1 (TX1 2).2.2.1 ∈ gU := t_1 (i := 138) rfl rfl
theorem fl_X4_49 : Cond.fieldLink RX4 49 (TX1 2).1 (TX1 2).2.1 (TX1 2).2.2.1 ∈ gU := t_1 (i := 139) rfl rfl
theorem fl_X1_9 : Cond.fieldLink RX1 9 (TX1 3).1 (TX1 3).2.1 (TX1 3).2.2.1 ∈ gU := t_1 (i := 140) rfl rfl
theorem fl_X7_202 : Cond.fieldLink RX7 202 (TX1 3).1 (TX1 3).2.1 (TX1 3).2.2.1 ∈ gU := t_1 (i := 141) rfl rfl
theorem fl_X1_18 : Cond.fieldLink RX1 18 (TX1 4).1 (TX1 4).2.1 (TX1 4).2.2.1 ∈ gU := t_1 (i := 142) rfl rfl
theorem fl_X7_174 : Cond.fieldLink RX7 174 (TX1 4).1 (TX1 4).2.1 (TX1 4).2.2.1 ∈ gU := t_1 (i := 143) rfl rfl
theorem fl_X1_66 : Cond.fieldLink RX1 66 (TX1 5).1 (TX1 5).2.1 (TX1 5).2.2.1 ∈ gU := t_1 (i := 144) rfl rfl
theorem fl_X1_24 : Cond.fieldLink RX1 24 (TX1 6).1 (TX1 6).2.1 (TX1 6).2.2.1 ∈ gU := t_1 (i := 145) rfl rfl
theorem fl_X1_27 : Cond.fieldLink RX1 27 (TX1 7).1 (TX1 7).2.1 (TX1 7).2.2.1 ∈ gU := t_1 (i := 146) rfl rfl
theorem fl_X1_30 : Cond.fieldLink RX1 30 (TX1 8).1 (TX1 8).2.1 (TX1 8).2.2.1 ∈ gU := t_1 (i := 147) rfl rfl
theorem fl_X1_33 : Cond.fieldLink RX1 33 (TX1 9).1 (TX1 9).2.1 (TX1 9).2.2.1 ∈ gU := t_1 (i := 148) rfl rfl
theorem fl_X1_132 : Cond.fieldLink RX1 132 (TX1 10).1 (TX1 10).2.1 (TX1 10).2.2.1 ∈ gU := t_1 (i := 149) rfl rfl
theorem fl_X1_69 : Cond.fieldLink RX1 69 (TX1 11).1 (TX1 11).2.1 (TX1 11).2.2.1 ∈ gU := t_1 (i := 150) rfl rfl
theorem fl_X7_275 : Cond.fieldLink RX7 275 (TX1 11).1 (TX1 11).2.1 (TX1 11).2.2.1 ∈ gU := t_1 (i := 151) rfl rfl
theorem fl_X1_72 : Cond.fieldLink RX1 72 (TX1 12).1 (TX1 12).2.1 (TX1 12).2.2.1 ∈ gU := t_1 (i := 152) rfl rfl
theorem fl_X7_140 : Cond.fieldLink RX7 140 (TX1 12).1 (TX1 12).2.1 (TX1 12).2.2.1 ∈ gU := t_1 (i := 153) rfl rfl
theorem fl_X1_75 : Cond.fieldLink RX1 75 (TX1 13).1 (TX1 13).2.1 (TX1 13).2.2.1 ∈ gU := t_1 (i := 154) rfl rfl
theorem fl_X7_143 : Cond.fieldLink RX7 143 (TX1 13).1 (TX1 13).2.1 (TX1 13).2.2.1 ∈ gU := t_1 (i := 155) rfl rfl
theorem fl_X1_78 : Cond.fieldLink RX1 78 (TX1 14).1 (TX1 14).2.1 (TX1 14).2.2.1 ∈ gU := t_1 (i := 156) rfl rfl
theorem fl_X7_146 : Cond.fieldLink RX7 146 (TX1 14).1 (TX1 14).2.1 (TX1 14).2.2.1 ∈ gU := t_1 (i := 157) rfl rfl
theorem fl_X1_81 : Cond.fieldLink RX1 81 (TX1 15).1 (TX1 15).2.1 (TX1 15).2.2.1 ∈ gU := t_1 (i := 158) rfl rfl
theorem fl_X7_149 : Cond.fieldLink RX7 149 (TX1 15).1 (TX1 15).2.1 (TX1 15).2.2.1 ∈ gU := t_1 (i := 159) rfl rfl
theorem ml_X4_3 : Cond.methodLink RX4 3 objectInit ∈ gU := t_1 (i := 198) rfl rfl
theorem fl_X4_9 : Cond.fieldLink RX4 9 (TX4 0).1 (TX4 0).2.1 (TX4 0).2.2.1 ∈ gU := t_1 (i := 199) rfl rfl
theorem fl_X4_15 : Cond.fieldLink RX4 15 (TX4 1).1 (TX4 1).2.1 (TX4 1).2.2.1 ∈ gU := t_1 (i := 200) rfl rfl
theorem fl_X4_19 : Cond.fieldLink RX4 19 (TX4 2).1 (TX4 2).2.1 (TX4 2).2.2.1 ∈ gU := t_1 (i := 201) rfl rfl
theorem fl_X4_23 : Cond.fieldLink RX4 23 (TX4 3).1 (TX4 3).2.1 (TX4 3).2.2.1 ∈ gU := t_1 (i := 202) rfl rfl
theorem ml_X3_3 : Cond.methodLink RX3 3 objectInit ∈ gU := t_1 (i := 218) rfl rfl
theorem fl_X3_9 : Cond.fieldLink RX3 9 (TX3 0).1 (TX3 0).2.1 (TX3 0).2.2.1 ∈ gU := t_1 (i := 219) rfl rfl
theorem fl_X3_15 : Cond.fieldLink RX3 15 (TX3 1).1 (TX3 1).2.1 (TX3 1).2.2.1 ∈ gU := t_1 (i := 220) rfl rfl
theorem fl_X3_18 : Cond.fieldLink RX3 18 (TX3 2).1 (TX3 2).2.1 (TX3 2).2.2.1 ∈ gU := t_1 (i := 221) rfl rfl
theorem fl_X3_25 : Cond.fieldLink RX3 25 (TX3 3).1 (TX3 3).2.1 (TX3 3).2.2.1 ∈ gU := t_1 (i := 222) rfl rfl
theorem fl_X7_191 : Cond.fieldLink RX7 191 (TX3 3).1 (TX3 3).2.1 (TX3 3).2.2.1 ∈ gU := t_1 (i := 223) rfl rfl
theorem ml_X2_3 : Cond.methodLink RX2 3 objectInit ∈ gU := t_1 (i := 239) rfl rfl
theorem fl_X2_9 : Cond.fieldLink RX2 9 (TX2 0).1 (TX2 0).2.1 (TX2 0).2.2.1 ∈ gU := t_2 (i := 0) rfl rfl
theorem fl_X7_257 : Cond.fieldLink RX7 257 (TX2 0).1 (TX2 0).2.1 (TX2 0).2.2.1 ∈ gU := t_2 (i := 1) rfl rfl
theorem fl_X2_19 : Cond.fieldLink RX2 19 (TX2 1).1 (TX2 1).2.1 (TX2 1).2.2.1 ∈ gU := t_2 (i := 2) rfl rfl
theorem fl_X7_201 : Cond.fieldLink RX7 201 (TX2 1).1 (TX2 1).2.1 (TX2 1).2.2.1 ∈ gU := t_2 (i := 3) rfl rfl
theorem fl_X2_15 : Cond.fieldLink RX2 15 (TX2 2).1 (TX2 2).2.1 (TX2 2).2.2.1 ∈ gU := t_2 (i := 4) rfl rfl
theorem fl_X7_198 : Cond.fieldLink RX7 198 (TX2 2).1 (TX2 2).2.1 (TX2 2).2.2.1 ∈ gU := t_2 (i := 5) rfl rfl
theorem ml_X7_67 : Cond.methodLink RX7 67 yX7_tellAnew ∈ gU := t_2 (i := 14) rfl rfl
theorem ml_X7_345 : Cond.methodLink RX7 345 yX6_readRiders ∈ gU := t_2 (i := 18) rfl rfl
theorem ml_X6_47 : Cond.methodLink RX6 47 yJ7_fill_53178 ∈ gU := t_2 (i := 22) rfl rfl
theorem ml_X6_53 : Cond.methodLink RX6 53 yX5_faultAsRiders ∈ gU := t_2 (i := 25) rfl rfl
theorem ml_X5_29 : Cond.methodLink RX5 29 yX5_fitsRider ∈ gU := t_2 (i := 29) rfl rfl
theorem ml_X6_68 : Cond.methodLink RX6 68 yX6_placeOnBoard ∈ gU := t_2 (i := 32) rfl rfl
theorem ml_X7_349 : Cond.methodLink RX7 349 yX6_readBag ∈ gU := t_2 (i := 36) rfl rfl
theorem ml_X6_73 : Cond.methodLink RX6 73 yX5_faultAsBag ∈ gU := t_2 (i := 40) rfl rfl
theorem ml_X5_33 : Cond.methodLink RX5 33 yX5_kindOf ∈ gU := t_2 (i := 44) rfl rfl
theorem ml_X6_76 : Cond.methodLink RX6 76 yX5_kindOf ∈ gU := t_2 (i := 47) rfl rfl
theorem ml_X6_80 : Cond.methodLink RX6 80 yX0_putAtBottom ∈ gU := t_2 (i := 48) rfl rfl
theorem ml_X7_352 : Cond.methodLink RX7 352 yX4_startAnew ∈ gU := t_2 (i := 52) rfl rfl
theorem ml_X4_37 : Cond.methodLink RX4 37 yX6_mayChange ∈ gU := t_2 (i := 56) rfl rfl
theorem ml_X7_171 : Cond.methodLink RX7 171 yX1_begin ∈ gU := t_2 (i := 60) rfl rfl
theorem ml_X1_55 : Cond.methodLink RX1 55 arraycopyName ∈ gU := t_2 (i := 64) rfl rfl
theorem ml_X1_62 : Cond.methodLink RX1 62 yX0_become ∈ gU := t_2 (i := 67) rfl rfl
theorem ml_X0_19 : Cond.methodLink RX0 19 arraycopyName ∈ gU := t_2 (i := 71) rfl rfl
theorem ml_X7_181 : Cond.methodLink RX7 181 yX1_go ∈ gU := t_2 (i := 72) rfl rfl
theorem ml_X1_84 : Cond.methodLink RX1 84 yX1_leaveAt ∈ gU := t_2 (i := 76) rfl rfl
theorem ml_X1_105 : Cond.methodLink RX1 105 yX0_putAtBottom ∈ gU := t_2 (i := 80) rfl rfl
theorem ml_X1_88 : Cond.methodLink RX1 88 yX1_changeAt ∈ gU := t_2 (i := 81) rfl rfl
theorem ml_X1_111 : Cond.methodLink RX1 111 yX6_mayChange ∈ gU := t_2 (i := 85) rfl rfl
theorem ml_X1_115 : Cond.methodLink RX1 115 yX1_takeWhole ∈ gU := t_2 (i := 86) rfl rfl
theorem ml_X1_125 : Cond.methodLink RX1 125 yX0_placeOf ∈ gU := t_2 (i := 90) rfl rfl
theorem ml_X1_129 : Cond.methodLink RX1 129 yX0_takeOut ∈ gU := t_2 (i := 94) rfl rfl
theorem ml_X1_118 : Cond.methodLink RX1 118 yX1_takeTorn ∈ gU := t_2 (i := 98) rfl rfl
theorem ml_X1_92 : Cond.methodLink RX1 92 yX1_keep ∈ gU := t_2 (i := 102) rfl rfl
theorem fl_X7_14 : Cond.fieldLink RX7 14 (TX7 0).1 (TX7 0).2.1 (TX7 0).2.2.1 ∈ gU := t_2 (i := 106) rfl rfl
theorem fl_X7_21 : Cond.fieldLink RX7 21 (TX7 1).1 (TX7 1).2.1 (TX7 1).2.2.1 ∈ gU := t_2 (i := 107) rfl rfl
theorem fl_X7_30 : Cond.fieldLink RX7 30 (TX7 2).1 (TX7 2).2.1 (TX7 2).2.2.1 ∈ gU := t_2 (i := 108) rfl rfl
theorem fl_X7_34 : Cond.fieldLink RX7 34 (TX7 3).1 (TX7 3).2.1 (TX7 3).2.2.1 ∈ gU := t_2 (i := 109) rfl rfl
theorem fl_X7_40 : Cond.fieldLink RX7 40 (TX7 4).1 (TX7 4).2.1 (TX7 4).2.2.1 ∈ gU := t_2 (i := 110) rfl rfl
theorem fl_X7_47 : Cond.fieldLink RX7 47 (TX7 5).1 (TX7 5).2.1 (TX7 5).2.2.1 ∈ gU := t_2 (i := 111) rfl rfl
theorem fl_X7_54 : Cond.fieldLink RX7 54 (TX7 6).1 (TX7 6).2.1 (TX7 6).2.2.1 ∈ gU := t_2 (i := 112) rfl rfl
theorem fl_X7_60 : Cond.fieldLink RX7 60 (TX7 7).1 (TX7 7).2.1 (TX7 7).2.2.1 ∈ gU := t_2 (i := 113) rfl rfl
theorem fl_X7_63 : Cond.fieldLink RX7 63 (TX7 8).1 (TX7 8).2.1 (TX7 8).2.2.1 ∈ gU := t_2 (i := 114) rfl rfl
theorem fl_X7_278 : Cond.fieldLink RX7 278 (TX7 9).1 (TX7 9).2.1 (TX7 9).2.2.1 ∈ gU := t_2 (i := 115) rfl rfl
theorem ml_L_13 : Cond.methodLink RL 13 yX7_type ∈ gU := t_2 (i := 137) rfl rfl
theorem ml_X7_70 : Cond.methodLink RX7 70 yX7_isOutside ∈ gU := t_2 (i := 141) rfl rfl
theorem ml_X7_74 : Cond.methodLink RX7 74 yX5_isFull ∈ gU := t_2 (i := 144) rfl rfl
theorem ml_X7_78 : Cond.methodLink RX7 78 yX5_append ∈ gU := t_2 (i := 148) rfl rfl
theorem ml_X5_25 : Cond.methodLink RX5 25 yX5_isFull ∈ gU := t_2 (i := 152) rfl rfl
theorem ml_L_18 : Cond.methodLink RL 18 yX7_wipe ∈ gU := t_2 (i := 153) rfl rfl
theorem ml_L_23 : Cond.methodLink RL 23 yX7_undo ∈ gU := t_2 (i := 157) rfl rfl
theorem ml_L_27 : Cond.methodLink RL 27 yX7_fault ∈ gU := t_2 (i := 161) rfl rfl
theorem ml_X7_85 : Cond.methodLink RX7 85 yX5_faultAsRiders ∈ gU := t_2 (i := 165) rfl rfl
theorem ml_X7_89 : Cond.methodLink RX7 89 yX5_faultAsBag ∈ gU := t_2 (i := 166) rfl rfl
theorem ml_L_31 : Cond.methodLink RL 31 yX7_rider ∈ gU := t_2 (i := 167) rfl rfl
theorem ml_L_35 : Cond.methodLink RL 35 yX7_worth ∈ gU := t_2 (i := 171) rfl rfl
theorem ml_L_39 : Cond.methodLink RL 39 yX7_set ∈ gU := t_2 (i := 175) rfl rfl
theorem ml_X7_110 : Cond.methodLink RX7 110 yX7_tellEven ∈ gU := t_2 (i := 179) rfl rfl
theorem ml_X7_114 : Cond.methodLink RX7 114 yX7_tellChanges ∈ gU := t_2 (i := 183) rfl rfl
theorem ml_X7_117 : Cond.methodLink RX7 117 yX7_tellForgets ∈ gU := t_2 (i := 187) rfl rfl
theorem ml_L_43 : Cond.methodLink RL 43 yX7_has ∈ gU := t_2 (i := 191) rfl rfl
theorem ml_X7_120 : Cond.methodLink RX7 120 yX1_hasOn ∈ gU := t_2 (i := 195) rfl rfl
theorem ml_X1_135 : Cond.methodLink RX1 135 yJ9_min_7cf53 ∈ gU := t_2 (i := 199) rfl rfl
theorem ml_L_47 : Cond.methodLink RL 47 yX7_torn ∈ gU := t_2 (i := 202) rfl rfl
theorem ml_X7_124 : Cond.methodLink RX7 124 yX1_tornOn ∈ gU := t_2 (i := 206) rfl rfl
theorem ml_L_51 : Cond.methodLink RL 51 yX7_bag ∈ gU := t_2 (i := 210) rfl rfl
theorem ml_X7_127 : Cond.methodLink RX7 127 yX1_bagOn ∈ gU := t_2 (i := 214) rfl rfl
theorem ml_L_55 : Cond.methodLink RL 55 yX7_gets ∈ gU := t_2 (i := 218) rfl rfl
theorem ml_X7_137 : Cond.methodLink RX7 137 yX1_servedOn ∈ gU := t_2 (i := 222) rfl rfl
theorem ml_L_59 : Cond.methodLink RL 59 yX7_first ∈ gU := t_2 (i := 226) rfl rfl
theorem ml_L_63 : Cond.methodLink RL 63 yX7_still ∈ gU := t_2 (i := 230) rfl rfl
theorem ml_L_68 : Cond.methodLink RL 68 yX7_served ∈ gU := t_2 (i := 234) rfl rfl
theorem ml_L_72 : Cond.methodLink RL 72 yX7_rings ∈ gU := t_2 (i := 238) rfl rfl
theorem ml_X7_152 : Cond.methodLink RX7 152 yX6_isRing ∈ gU := t_3 (i := 2) rfl rfl
theorem ml_L_76 : Cond.methodLink RL 76 yX7_open ∈ gU := t_3 (i := 6) rfl rfl
theorem ml_X7_156 : Cond.methodLink RX7 156 yJ6_bitCount_0f7a4 ∈ gU := t_3 (i := 10) rfl rfl
theorem co_J6_265 : Cond.constant RJ6 265 (1431655765) ∈ gU := t_3 (i := 13) rfl rfl
theorem co_J6_266 : Cond.constant RJ6 266 (858993459) ∈ gU := t_3 (i := 14) rfl rfl
theorem co_J6_267 : Cond.constant RJ6 267 (252645135) ∈ gU := t_3 (i := 15) rfl rfl
theorem ml_X7_161 : Cond.methodLink RX7 161 yX4_servedBy ∈ gU := t_3 (i := 16) rfl rfl
theorem ml_X4_44 : Cond.methodLink RX4 44 yX1_begin ∈ gU := t_3 (i := 20) rfl rfl
theorem ml_X4_52 : Cond.methodLink RX4 52 yX1_go ∈ gU := t_3 (i := 21) rfl rfl
theorem ml_X4_55 : Cond.methodLink RX4 55 yX1_servedOn ∈ gU := t_3 (i := 22) rfl rfl
theorem ml_X4_59 : Cond.methodLink RX4 59 yJ9_min_7cf53 ∈ gU := t_3 (i := 23) rfl rfl
theorem ml_L_80 : Cond.methodLink RL 80 yX7_least ∈ gU := t_3 (i := 24) rfl rfl
theorem ml_X7_165 : Cond.methodLink RX7 165 yX7_rideWithEven ∈ gU := t_3 (i := 28) rfl rfl
theorem ml_X7_168 : Cond.methodLink RX7 168 yX1_servedAtLast ∈ gU := t_3 (i := 32) rfl rfl
theorem ml_X1_141 : Cond.methodLink RX1 141 yJ6_bitCount_0f7a4 ∈ gU := t_3 (i := 36) rfl rfl
theorem ml_L_84 : Cond.methodLink RL 84 yX7_top ∈ gU := t_3 (i := 37) rfl rfl
theorem ml_X7_178 : Cond.methodLink RX7 178 yX0_putOnTop ∈ gU := t_3 (i := 41) rfl rfl
theorem ml_L_88 : Cond.methodLink RL 88 yX7_seen ∈ gU := t_3 (i := 45) rfl rfl
theorem ml_X7_184 : Cond.methodLink RX7 184 yX3_mayBe ∈ gU := t_3 (i := 49) rfl rfl
theorem ml_X7_187 : Cond.methodLink RX7 187 yX3_isFull ∈ gU := t_3 (i := 53) rfl rfl
theorem ml_X7_188 : Cond.methodLink RX7 188 yX3_append ∈ gU := t_3 (i := 57) rfl rfl
theorem ml_X3_29 : Cond.methodLink RX3 29 yX3_isFull ∈ gU := t_3 (i := 61) rfl rfl
theorem ml_L_93 : Cond.methodLink RL 93 yX7_forget ∈ gU := t_3 (i := 62) rfl rfl
theorem ml_L_97 : Cond.methodLink RL 97 yX7_read ∈ gU := t_3 (i := 66) rfl rfl
theorem ml_X7_192 : Cond.methodLink RX7 192 yX2_isLost ∈ gU := t_3 (i := 70) rfl rfl
theorem ml_X7_195 : Cond.methodLink RX7 195 yX7_finding ∈ gU := t_3 (i := 74) rfl rfl
theorem ml_L_101 : Cond.methodLink RL 101 yX7_had ∈ gU := t_3 (i := 78) rfl rfl
theorem ml_X7_205 : Cond.methodLink RX7 205 yX3_comeOutIn ∈ gU := t_3 (i := 82) rfl rfl
theorem ml_X3_33 : Cond.methodLink RX3 33 yX1_hasOn ∈ gU := t_3 (i := 86) rfl rfl
theorem ml_L_105 : Cond.methodLink RL 105 yX7_was ∈ gU := t_3 (i := 87) rfl rfl
theorem ml_L_109 : Cond.methodLink RL 109 yX7_ask ∈ gU := t_3 (i := 91) rfl rfl
theorem ml_X7_209 : Cond.methodLink RX7 209 yX7_clearAlike ∈ gU := t_3 (i := 95) rfl rfl
theorem ml_X7_223 : Cond.methodLink RX7 223 yJ7_fill_53178 ∈ gU := t_3 (i := 99) rfl rfl
theorem ml_X7_212 : Cond.methodLink RX7 212 yX7_countAlike ∈ gU := t_3 (i := 100) rfl rfl
theorem ml_X7_215 : Cond.methodLink RX7 215 yX7_greatestOf ∈ gU := t_3 (i := 104) rfl rfl
theorem ml_X7_361 : Cond.methodLink RX7 361 yJ9_max_7cf53 ∈ gU := t_3 (i := 107) rfl rfl
theorem ml_L_113 : Cond.methodLink RL 113 yX7_maybe ∈ gU := t_3 (i := 108) rfl rfl
theorem co_X7_221 : Cond.constantLong RX7 221 (-9223372036854775806) ∈ gU := t_3 (i := 112) rfl rfl
theorem ml_X7_232 : Cond.methodLink RX7 232 yX7_chanceAbove ∈ gU := t_3 (i := 113) rfl rfl
theorem co_X7_236 : Cond.constantLong RX7 236 (2) ∈ gU := t_3 (i := 117) rfl rfl
theorem ml_L_118 : Cond.methodLink RL 118 yX7_depot ∈ gU := t_3 (i := 118) rfl rfl
theorem co_X7_238 : Cond.constant RX7 238 (1103515245) ∈ gU := t_3 (i := 122) rfl rfl
theorem ml_X7_239 : Cond.methodLink RX7 239 yX0_putAtBottom ∈ gU := t_3 (i := 123) rfl rfl
theorem ml_L_122 : Cond.methodLink RL 122 yX7_sheet ∈ gU := t_3 (i := 124) rfl rfl
theorem ml_X7_242 : Cond.methodLink RX7 242 yX2_startAnew ∈ gU := t_3 (i := 128) rfl rfl
theorem ml_X2_22 : Cond.methodLink RX2 22 yJ7_fill_53178 ∈ gU := t_3 (i := 132) rfl rfl
theorem ml_L_126 : Cond.methodLink RL 126 yX7_lose ∈ gU := t_3 (i := 133) rfl rfl
theorem ml_X7_246 : Cond.methodLink RX7 246 yX2_giveUp ∈ gU := t_3 (i := 137) rfl rfl
theorem ml_L_130 : Cond.methodLink RL 130 yX7_lay ∈ gU := t_3 (i := 141) rfl rfl
theorem ml_X7_249 : Cond.methodLink RX7 249 yX7_refusalOfItem ∈ gU := t_3 (i := 145) rfl rfl
theorem ml_X7_260 : Cond.methodLink RX7 260 yX2_hasItems ∈ gU := t_3 (i := 149) rfl rfl
theorem ml_X7_253 : Cond.methodLink RX7 253 yX2_put ∈ gU := t_3 (i := 153) rfl rfl
theorem ml_L_135 : Cond.methodLink RL 135 yX7_get ∈ gU := t_3 (i := 157) rfl rfl
theorem co_X7_256 : Cond.constant RX7 256 (-2147483648) ∈ gU := t_3 (i := 161) rfl rfl
theorem ml_L_139 : Cond.methodLink RL 139 yX7_copy ∈ gU := t_3 (i := 162) rfl rfl
theorem ml_X7_263 : Cond.methodLink RX7 263 arraycopyName ∈ gU := t_3 (i := 166) rfl rfl
theorem ml_L_144 : Cond.methodLink RL 144 yX7_write ∈ gU := t_3 (i := 167) rfl rfl
theorem ml_X7_269 : Cond.methodLink RX7 269 yJ9_min_7cf53 ∈ gU := t_3 (i := 171) rfl rfl
theorem ml_L_148 : Cond.methodLink RL 148 yX7_count ∈ gU := t_3 (i := 172) rfl rfl
theorem ml_L_152 : Cond.methodLink RL 152 yX7_digest ∈ gU := t_3 (i := 176) rfl rfl
theorem co_X7_281 : Cond.constantLong RX7 281 (17) ∈ gU := t_3 (i := 180) rfl rfl
theorem ml_X7_283 : Cond.methodLink RX7 283 yX7_count ∈ gU := t_3 (i := 181) rfl rfl
theorem ml_X7_286 : Cond.methodLink RX7 286 yX7_mix ∈ gU := t_3 (i := 182) rfl rfl
theorem co_X7_343 : Cond.constantLong RX7 343 (31) ∈ gU := t_3 (i := 185) rfl rfl
theorem ml_X7_290 : Cond.methodLink RX7 290 yX7_fault ∈ gU := t_3 (i := 186) rfl rfl
theorem ml_X7_293 : Cond.methodLink RX7 293 yX7_rider ∈ gU := t_3 (i := 187) rfl rfl
theorem ml_X7_296 : Cond.methodLink RX7 296 yX7_has ∈ gU := t_3 (i := 188) rfl rfl
theorem ml_X7_298 : Cond.methodLink RX7 298 yX7_torn ∈ gU := t_3 (i := 189) rfl rfl
theorem ml_X7_301 : Cond.methodLink RX7 301 yX7_gets ∈ gU := t_3 (i := 190) rfl rfl
theorem ml_X7_304 : Cond.methodLink RX7 304 yX7_open ∈ gU := t_3 (i := 191) rfl rfl
theorem ml_X7_307 : Cond.methodLink RX7 307 yX7_had ∈ gU := t_3 (i := 192) rfl rfl
theorem ml_X7_310 : Cond.methodLink RX7 310 yX7_maybe ∈ gU := t_3 (i := 193) rfl rfl
theorem ml_X7_314 : Cond.methodLink RX7 314 yX7_served ∈ gU := t_3 (i := 194) rfl rfl
theorem ml_X7_317 : Cond.methodLink RX7 317 yX7_bag ∈ gU := t_3 (i := 195) rfl rfl
theorem ml_X7_319 : Cond.methodLink RX7 319 yX7_ask ∈ gU := t_3 (i := 196) rfl rfl
theorem ml_X7_322 : Cond.methodLink RX7 322 yX7_first ∈ gU := t_3 (i := 197) rfl rfl
theorem ml_X7_325 : Cond.methodLink RX7 325 yX7_still ∈ gU := t_3 (i := 198) rfl rfl
theorem ml_X7_328 : Cond.methodLink RX7 328 yX7_rings ∈ gU := t_3 (i := 199) rfl rfl
theorem ml_X7_331 : Cond.methodLink RX7 331 yX7_least ∈ gU := t_3 (i := 200) rfl rfl
theorem ml_X7_334 : Cond.methodLink RX7 334 yX7_top ∈ gU := t_3 (i := 201) rfl rfl
theorem ml_X7_337 : Cond.methodLink RX7 337 yX7_was ∈ gU := t_3 (i := 202) rfl rfl
theorem ml_X7_340 : Cond.methodLink RX7 340 yX7_depot ∈ gU := t_3 (i := 203) rfl rfl
theorem ml_L_12 : Cond.methodLink RL 12 yX8_init ∈ gU := t_3 (i := 206) rfl rfl
theorem ml_X8_1 : Cond.methodLink RX8 1 objectInit ∈ gU := t_3 (i := 209) rfl rfl
theorem fl_X8_7 : Cond.fieldLink RX8 7 (TX8 0).1 (TX8 0).2.1 (TX8 0).2.2.1 ∈ gU := t_3 (i := 210) rfl rfl
theorem fl_X8_13 : Cond.fieldLink RX8 13 (TX8 1).1 (TX8 1).2.1 (TX8 1).2.2.1 ∈ gU := t_3 (i := 211) rfl rfl
theorem fl_X8_16 : Cond.fieldLink RX8 16 (TX8 2).1 (TX8 2).2.1 (TX8 2).2.2.1 ∈ gU := t_3 (i := 212) rfl rfl
theorem fl_X8_19 : Cond.fieldLink RX8 19 (TX8 3).1 (TX8 3).2.1 (TX8 3).2.2.1 ∈ gU := t_3 (i := 213) rfl rfl
theorem fl_X8_80 : Cond.fieldLink RX8 80 (TX8 4).1 (TX8 4).2.1 (TX8 4).2.2.1 ∈ gU := t_3 (i := 214) rfl rfl
theorem fl_X8_22 : Cond.fieldLink RX8 22 (TX8 5).1 (TX8 5).2.1 (TX8 5).2.2.1 ∈ gU := t_3 (i := 215) rfl rfl
theorem fl_X8_25 : Cond.fieldLink RX8 25 (TX8 6).1 (TX8 6).2.1 (TX8 6).2.2.1 ∈ gU := t_3 (i := 216) rfl rfl
theorem fl_X8_120 : Cond.fieldLink RX8 120 (TX8 7).1 (TX8 7).2.1 (TX8 7).2.2.1 ∈ gU := t_3 (i := 217) rfl rfl
theorem fl_X8_28 : Cond.fieldLink RX8 28 (TX8 8).1 (TX8 8).2.1 (TX8 8).2.2.1 ∈ gU := t_3 (i := 218) rfl rfl
theorem fl_X8_126 : Cond.fieldLink RX8 126 (TX8 9).1 (TX8 9).2.1 (TX8 9).2.2.1 ∈ gU := t_3 (i := 219) rfl rfl
theorem fl_X8_31 : Cond.fieldLink RX8 31 (TX8 10).1 (TX8 10).2.1 (TX8 10).2.2.1 ∈ gU := t_3 (i := 220) rfl rfl
theorem fl_X8_34 : Cond.fieldLink RX8 34 (TX8 11).1 (TX8 11).2.1 (TX8 11).2.2.1 ∈ gU := t_3 (i := 221) rfl rfl
theorem fl_X8_37 : Cond.fieldLink RX8 37 (TX8 12).1 (TX8 12).2.1 (TX8 12).2.2.1 ∈ gU := t_3 (i := 222) rfl rfl
theorem fl_X8_70 : Cond.fieldLink RX8 70 (TX8 13).1 (TX8 13).2.1 (TX8 13).2.2.1 ∈ gU := t_3 (i := 223) rfl rfl
theorem fl_X8_40 : Cond.fieldLink RX8 40 (TX8 14).1 (TX8 14).2.1 (TX8 14).2.2.1 ∈ gU := t_3 (i := 224) rfl rfl
theorem fl_X8_43 : Cond.fieldLink RX8 43 (TX8 15).1 (TX8 15).2.1 (TX8 15).2.2.1 ∈ gU := t_3 (i := 225) rfl rfl
theorem fl_X8_150 : Cond.fieldLink RX8 150 (TX8 16).1 (TX8 16).2.1 (TX8 16).2.2.1 ∈ gU := t_3 (i := 226) rfl rfl
theorem fl_X8_147 : Cond.fieldLink RX8 147 (TX8 17).1 (TX8 17).2.1 (TX8 17).2.2.1 ∈ gU := t_3 (i := 227) rfl rfl
theorem fl_X8_46 : Cond.fieldLink RX8 46 (TX8 18).1 (TX8 18).2.1 (TX8 18).2.2.1 ∈ gU := t_3 (i := 228) rfl rfl
theorem fl_X8_49 : Cond.fieldLink RX8 49 (TX8 19).1 (TX8 19).2.1 (TX8 19).2.2.1 ∈ gU := t_3 (i := 229) rfl rfl
theorem fl_X8_52 : Cond.fieldLink RX8 52 (TX8 20).1 (TX8 20).2.1 (TX8 20).2.2.1 ∈ gU := t_3 (i := 230) rfl rfl
theorem fl_X8_55 : Cond.fieldLink RX8 55 (TX8 21).1 (TX8 21).2.1 (TX8 21).2.2.1 ∈ gU := t_3 (i := 231) rfl rfl
theorem fl_X8_58 : Cond.fieldLink RX8 58 (TX8 22).1 (TX8 22).2.1 (TX8 22).2.2.1 ∈ gU := t_3 (i := 232) rfl rfl
theorem fl_X8_61 : Cond.fieldLink RX8 61 (TX8 23).1 (TX8 23).2.1 (TX8 23).2.2.1 ∈ gU := t_3 (i := 233) rfl rfl
theorem fl_X8_180 : Cond.fieldLink RX8 180 (TX8 24).1 (TX8 24).2.1 (TX8 24).2.2.1 ∈ gU := t_3 (i := 234) rfl rfl
theorem fl_X8_183 : Cond.fieldLink RX8 183 (TX8 25).1 (TX8 25).2.1 (TX8 25).2.2.1 ∈ gU := t_3 (i := 235) rfl rfl
theorem fl_X8_247 : Cond.fieldLink RX8 247 (TX8 26).1 (TX8 26).2.1 (TX8 26).2.2.1 ∈ gU := t_3 (i := 236) rfl rfl
theorem fl_X8_64 : Cond.fieldLink RX8 64 (TX8 27).1 (TX8 27).2.1 (TX8 27).2.2.1 ∈ gU := t_3 (i := 237) rfl rfl
theorem fl_X8_67 : Cond.fieldLink RX8 67 (TX8 28).1 (TX8 28).2.1 (TX8 28).2.2.1 ∈ gU := t_3 (i := 238) rfl rfl
theorem fl_X8_281 : Cond.fieldLink RX8 281 (TX8 29).1 (TX8 29).2.1 (TX8 29).2.2.1 ∈ gU := t_3 (i := 239) rfl rfl
theorem ml_L_125 : Cond.methodLink RL 125 yX8_sheet ∈ gU := t_4 (i := 61) rfl rfl
theorem ml_X8_85 : Cond.methodLink RX8 85 yX8_isSheet ∈ gU := t_4 (i := 65) rfl rfl
theorem co_X8_83 : Cond.constantLong RX8 83 (3) ∈ gU := t_4 (i := 68) rfl rfl
theorem ml_X8_76 : Cond.methodLink RX8 76 yX8_in ∈ gU := t_4 (i := 69) rfl rfl
theorem co_X8_89 : Cond.constantLong RX8 89 (2) ∈ gU := t_4 (i := 72) rfl rfl
theorem ml_X8_91 : Cond.methodLink RX8 91 yX8_finds ∈ gU := t_4 (i := 73) rfl rfl
theorem ml_L_129 : Cond.methodLink RL 129 yX8_lose ∈ gU := t_4 (i := 77) rfl rfl
theorem ml_L_134 : Cond.methodLink RL 134 yX8_lay ∈ gU := t_4 (i := 81) rfl rfl
theorem ml_X8_95 : Cond.methodLink RX8 95 yX8_lacks ∈ gU := t_4 (i := 85) rfl rfl
theorem ml_X8_99 : Cond.methodLink RX8 99 yX8_cut ∈ gU := t_4 (i := 89) rfl rfl
theorem ml_L_138 : Cond.methodLink RL 138 yX8_get ∈ gU := t_4 (i := 92) rfl rfl
theorem co_X8_103 : Cond.constant RX8 103 (-2147483648) ∈ gU := t_4 (i := 96) rfl rfl
theorem ml_L_143 : Cond.methodLink RL 143 yX8_copy ∈ gU := t_4 (i := 97) rfl rfl
theorem ml_L_17 : Cond.methodLink RL 17 yX8_type ∈ gU := t_4 (i := 101) rfl rfl
theorem ml_X8_104 : Cond.methodLink RX8 104 yX8_isTwo ∈ gU := t_4 (i := 105) rfl rfl
theorem co_X8_107 : Cond.constantLong RX8 107 (255) ∈ gU := t_4 (i := 108) rfl rfl
theorem ml_L_22 : Cond.methodLink RL 22 yX8_wipe ∈ gU := t_4 (i := 109) rfl rfl
theorem ml_L_26 : Cond.methodLink RL 26 yX8_undo ∈ gU := t_4 (i := 113) rfl rfl
theorem ml_L_30 : Cond.methodLink RL 30 yX8_fault ∈ gU := t_4 (i := 117) rfl rfl
theorem ml_X8_133 : Cond.methodLink RX8 133 yX8_readsRiders ∈ gU := t_4 (i := 121) rfl rfl
theorem ml_X8_123 : Cond.methodLink RX8 123 yX8_riderOf ∈ gU := t_4 (i := 125) rfl rfl
theorem ml_X8_113 : Cond.methodLink RX8 113 yX8_letterOf ∈ gU := t_4 (i := 128) rfl rfl
theorem co_X8_109 : Cond.constantLong RX8 109 (97) ∈ gU := t_4 (i := 131) rfl rfl
theorem co_X8_111 : Cond.constantLong RX8 111 (104) ∈ gU := t_4 (i := 132) rfl rfl
theorem co_X8_116 : Cond.constantLong RX8 116 (48) ∈ gU := t_4 (i := 133) rfl rfl
theorem co_X8_118 : Cond.constantLong RX8 118 (57) ∈ gU := t_4 (i := 134) rfl rfl
theorem ml_X8_137 : Cond.methodLink RX8 137 yX8_readsBag ∈ gU := t_4 (i := 135) rfl rfl
theorem co_X8_129 : Cond.constantLong RX8 129 (65) ∈ gU := t_4 (i := 139) rfl rfl
theorem co_X8_131 : Cond.constantLong RX8 131 (72) ∈ gU := t_4 (i := 140) rfl rfl
theorem ml_L_34 : Cond.methodLink RL 34 yX8_rider ∈ gU := t_4 (i := 141) rfl rfl
theorem ml_X8_142 : Cond.methodLink RX8 142 yX8_isRider ∈ gU := t_4 (i := 145) rfl rfl
theorem ml_L_38 : Cond.methodLink RL 38 yX8_worth ∈ gU := t_4 (i := 149) rfl rfl
theorem co_X8_145 : Cond.constantLong RX8 145 (7) ∈ gU := t_4 (i := 153) rfl rfl
theorem co_X8_140 : Cond.constantLong RX8 140 (9) ∈ gU := t_4 (i := 154) rfl rfl
theorem ml_L_42 : Cond.methodLink RL 42 yX8_set ∈ gU := t_4 (i := 155) rfl rfl
theorem ml_L_46 : Cond.methodLink RL 46 yX8_has ∈ gU := t_4 (i := 159) rfl rfl
theorem ml_X8_198 : Cond.methodLink RX8 198 yX8_reads ∈ gU := t_4 (i := 163) rfl rfl
theorem ml_X8_195 : Cond.methodLink RX8 195 yX8_lives ∈ gU := t_4 (i := 167) rfl rfl
theorem ml_X8_186 : Cond.methodLink RX8 186 yX8_begins ∈ gU := t_4 (i := 171) rfl rfl
theorem ml_X8_160 : Cond.methodLink RX8 160 yX8_puts ∈ gU := t_4 (i := 175) rfl rfl
theorem ml_X8_189 : Cond.methodLink RX8 189 yX8_stops ∈ gU := t_4 (i := 179) rfl rfl
theorem ml_X8_153 : Cond.methodLink RX8 153 yX8_isIn ∈ gU := t_4 (i := 183) rfl rfl
theorem ml_X8_157 : Cond.methodLink RX8 157 yX8_may ∈ gU := t_4 (i := 186) rfl rfl
theorem ml_X8_177 : Cond.methodLink RX8 177 yX8_changesOne ∈ gU := t_4 (i := 190) rfl rfl
theorem ml_X8_164 : Cond.methodLink RX8 164 yX8_find ∈ gU := t_4 (i := 194) rfl rfl
theorem ml_X8_167 : Cond.methodLink RX8 167 yX8_takes ∈ gU := t_4 (i := 198) rfl rfl
theorem ml_X8_170 : Cond.methodLink RX8 170 yX8_gives ∈ gU := t_4 (i := 202) rfl rfl
theorem ml_X8_174 : Cond.methodLink RX8 174 yX8_other ∈ gU := t_4 (i := 206) rfl rfl
theorem ml_X8_192 : Cond.methodLink RX8 192 yX8_keeps ∈ gU := t_4 (i := 210) rfl rfl
theorem ml_X8_201 : Cond.methodLink RX8 201 yX8_isDay ∈ gU := t_4 (i := 214) rfl rfl
theorem ml_L_50 : Cond.methodLink RL 50 yX8_torn ∈ gU := t_4 (i := 217) rfl rfl
theorem ml_L_54 : Cond.methodLink RL 54 yX8_bag ∈ gU := t_4 (i := 221) rfl rfl
theorem co_X8_204 : Cond.constantLong RX8 204 (-1) ∈ gU := t_4 (i := 225) rfl rfl
theorem co_X8_206 : Cond.constantLong RX8 206 (27) ∈ gU := t_4 (i := 226) rfl rfl
theorem ml_X8_208 : Cond.methodLink RX8 208 yX8_bagOf ∈ gU := t_4 (i := 227) rfl rfl
theorem ml_L_58 : Cond.methodLink RL 58 yX8_gets ∈ gU := t_4 (i := 231) rfl rfl
theorem ml_X8_214 : Cond.methodLink RX8 214 yX8_getsOf ∈ gU := t_4 (i := 235) rfl rfl
theorem ml_X8_211 : Cond.methodLink RX8 211 yX8_isServed ∈ gU := t_4 (i := 239) rfl rfl
theorem ml_L_62 : Cond.methodLink RL 62 yX8_first ∈ gU := t_5 (i := 3) rfl rfl
theorem ml_L_67 : Cond.methodLink RL 67 yX8_still ∈ gU := t_5 (i := 7) rfl rfl
theorem ml_L_71 : Cond.methodLink RL 71 yX8_served ∈ gU := t_5 (i := 11) rfl rfl
theorem ml_X8_217 : Cond.methodLink RX8 217 yX8_servedBy ∈ gU := t_5 (i := 15) rfl rfl
theorem ml_L_75 : Cond.methodLink RL 75 yX8_rings ∈ gU := t_5 (i := 19) rfl rfl
theorem ml_X8_227 : Cond.methodLink RX8 227 yX8_ringsNow ∈ gU := t_5 (i := 23) rfl rfl
theorem ml_X8_223 : Cond.methodLink RX8 223 yX8_isRing ∈ gU := t_5 (i := 27) rfl rfl
theorem ml_X8_220 : Cond.methodLink RX8 220 yX8_wantsOf ∈ gU := t_5 (i := 31) rfl rfl
theorem ml_L_79 : Cond.methodLink RL 79 yX8_open ∈ gU := t_5 (i := 35) rfl rfl
theorem ml_X8_233 : Cond.methodLink RX8 233 yX8_openOf ∈ gU := t_5 (i := 39) rfl rfl
theorem ml_X8_230 : Cond.methodLink RX8 230 yX8_ones ∈ gU := t_5 (i := 43) rfl rfl
theorem ml_L_83 : Cond.methodLink RL 83 yX8_least ∈ gU := t_5 (i := 46) rfl rfl
theorem ml_X8_239 : Cond.methodLink RX8 239 yX8_leastOf ∈ gU := t_5 (i := 50) rfl rfl
theorem ml_X8_236 : Cond.methodLink RX8 236 yX8_greater ∈ gU := t_5 (i := 54) rfl rfl
theorem ml_L_87 : Cond.methodLink RL 87 yX8_top ∈ gU := t_5 (i := 57) rfl rfl
theorem ml_X8_242 : Cond.methodLink RX8 242 yX8_topOf ∈ gU := t_5 (i := 61) rfl rfl
theorem ml_L_92 : Cond.methodLink RL 92 yX8_seen ∈ gU := t_5 (i := 65) rfl rfl
theorem co_X8_245 : Cond.constantLong RX8 245 (8) ∈ gU := t_5 (i := 69) rfl rfl
theorem ml_L_96 : Cond.methodLink RL 96 yX8_forget ∈ gU := t_5 (i := 70) rfl rfl
theorem ml_L_100 : Cond.methodLink RL 100 yX8_read ∈ gU := t_5 (i := 74) rfl rfl
theorem ml_X8_250 : Cond.methodLink RX8 250 yX8_seen ∈ gU := t_5 (i := 78) rfl rfl
theorem ml_L_104 : Cond.methodLink RL 104 yX8_had ∈ gU := t_5 (i := 79) rfl rfl
theorem ml_X8_257 : Cond.methodLink RX8 257 yX8_hadOf ∈ gU := t_5 (i := 83) rfl rfl
theorem ml_X8_253 : Cond.methodLink RX8 253 yX8_isSeen ∈ gU := t_5 (i := 87) rfl rfl
theorem ml_L_108 : Cond.methodLink RL 108 yX8_was ∈ gU := t_5 (i := 91) rfl rfl
theorem ml_X8_260 : Cond.methodLink RX8 260 yX8_wasNow ∈ gU := t_5 (i := 95) rfl rfl
theorem ml_L_112 : Cond.methodLink RL 112 yX8_ask ∈ gU := t_5 (i := 99) rfl rfl
theorem ml_X8_263 : Cond.methodLink RX8 263 yX8_askOf ∈ gU := t_5 (i := 103) rfl rfl
theorem ml_L_117 : Cond.methodLink RL 117 yX8_maybe ∈ gU := t_5 (i := 107) rfl rfl
theorem co_X8_270 : Cond.constantLong RX8 270 (16) ∈ gU := t_5 (i := 111) rfl rfl
theorem ml_X8_272 : Cond.methodLink RX8 272 yX8_maybeOf ∈ gU := t_5 (i := 112) rfl rfl
theorem ml_X8_266 : Cond.methodLink RX8 266 yX8_part ∈ gU := t_5 (i := 116) rfl rfl
theorem ml_X8_276 : Cond.methodLink RX8 276 yX8_no ∈ gU := t_5 (i := 119) rfl rfl
theorem co_X8_74 : Cond.constantLong RX8 74 (-9223372036854775808) ∈ gU := t_5 (i := 122) rfl rfl
theorem ml_L_121 : Cond.methodLink RL 121 yX8_depot ∈ gU := t_5 (i := 123) rfl rfl
theorem ml_X8_287 : Cond.methodLink RX8 287 yX8_depotOf ∈ gU := t_5 (i := 127) rfl rfl
theorem ml_X8_284 : Cond.methodLink RX8 284 yX8_lot ∈ gU := t_5 (i := 131) rfl rfl
theorem co_X8_280 : Cond.constant RX8 280 (1103515245) ∈ gU := t_5 (i := 135) rfl rfl
theorem ml_L_147 : Cond.methodLink RL 147 yX8_write ∈ gU := t_5 (i := 136) rfl rfl
theorem ml_X8_290 : Cond.methodLink RX8 290 yX8_lesser ∈ gU := t_5 (i := 140) rfl rfl
theorem ml_L_151 : Cond.methodLink RL 151 yX8_count ∈ gU := t_5 (i := 143) rfl rfl
theorem ml_L_156 : Cond.methodLink RL 156 yX8_digest ∈ gU := t_5 (i := 147) rfl rfl
theorem co_X8_295 : Cond.constantLong RX8 295 (17) ∈ gU := t_5 (i := 151) rfl rfl
theorem co_X8_293 : Cond.constantLong RX8 293 (31) ∈ gU := t_5 (i := 152) rfl rfl
theorem ml_X8_297 : Cond.methodLink RX8 297 yX8_count ∈ gU := t_5 (i := 153) rfl rfl
theorem ml_X8_300 : Cond.methodLink RX8 300 yX8_tellsRider ∈ gU := t_5 (i := 154) rfl rfl
theorem ml_X8_304 : Cond.methodLink RX8 304 yX8_tellsDay ∈ gU := t_5 (i := 158) rfl rfl
theorem mi_X0_init : Cond.instanceMethod yX0_init ∈ gU ∧ Cond.initialized RX0 ∈ gU ∧ Cond.code yX0_init cX0_init 1 (none) ∈ gU := ⟨t_1 (i := 52) rfl rfl, t_1 (i := 5) rfl rfl, t_1 (i := 53) rfl rfl⟩
theorem mv_X0_become : Cond.instanceMethod yX0_become ∈ gU ∧ Cond.selects RX0 yX0_become yX0_become ∈ gU ∧ Cond.initialized RX0 ∈ gU ∧ Cond.code yX0_become cX0_become 2 (none) ∈ gU ∧ (yX0_become.cls = RX0 ∧ yX0_become.cls ≠ "java/lang/invoke/MethodHandle" ∧ yX0_become.cls ≠ "java/lang/invoke/VarHandle" ∧ (parseMethodDescriptor yX0_become.desc).map (fun d => d.parameters.length) = some 1) := ⟨t_2 (i := 68) rfl rfl, t_2 (i := 69) rfl rfl, t_1 (i := 5) rfl rfl, t_2 (i := 70) rfl rfl, by decide +kernel⟩
theorem mv_X0_putAtBottom : Cond.instanceMethod yX0_putAtBottom ∈ gU ∧ Cond.selects RX0 yX0_putAtBottom yX0_putAtBottom ∈ gU ∧ Cond.initialized RX0 ∈ gU ∧ Cond.code yX0_putAtBottom cX0_putAtBottom 2 (none) ∈ gU ∧ (yX0_putAtBottom.cls = RX0 ∧ yX0_putAtBottom.cls ≠ "java/lang/invoke/MethodHandle" ∧ yX0_putAtBottom.cls ≠ "java/lang/invoke/VarHandle" ∧ (parseMethodDescriptor yX0_putAtBottom.desc).map (fun d => d.parameters.length) = some 1) := ⟨t_2 (i := 49) rfl rfl, t_2 (i := 50) rfl rfl, t_1 (i := 5) rfl rfl, t_2 (i := 51) rfl rfl, by decide +kernel⟩
theorem mv_X0_putOnTop : Cond.instanceMethod yX0_putOnTop ∈ gU ∧ Cond.selects RX0 yX0_putOnTop yX0_putOnTop ∈ gU ∧ Cond.initialized RX0 ∈ gU ∧ Cond.code yX0_putOnTop cX0_putOnTop 2 (none) ∈ gU ∧ (yX0_putOnTop.cls = RX0 ∧ yX0_putOnTop.cls ≠ "java/lang/invoke/MethodHandle" ∧ yX0_putOnTop.cls ≠ "java/lang/invoke/VarHandle" ∧ (parseMethodDescriptor yX0_putOnTop.desc).map (fun d => d.parameters.length) = some 1) := ⟨t_3 (i := 42) rfl rfl, t_3 (i := 43) rfl rfl, t_1 (i := 5) rfl rfl, t_3 (i := 44) rfl rfl, by decide +kernel⟩
theorem mv_X0_placeOf : Cond.instanceMethod yX0_placeOf ∈ gU ∧ Cond.selects RX0 yX0_placeOf yX0_placeOf ∈ gU ∧ Cond.initialized RX0 ∈ gU ∧ Cond.code yX0_placeOf cX0_placeOf 3 (some .int) ∈ gU ∧ (yX0_placeOf.cls = RX0 ∧ yX0_placeOf.cls ≠ "java/lang/invoke/MethodHandle" ∧ yX0_placeOf.cls ≠ "java/lang/invoke/VarHandle" ∧ (parseMethodDescriptor yX0_placeOf.desc).map (fun d => d.parameters.length) = some 1) := ⟨t_2 (i := 91) rfl rfl, t_2 (i := 92) rfl rfl, t_1 (i := 5) rfl rfl, t_2 (i := 93) rfl rfl, by decide +kernel⟩
theorem mv_X0_takeOut : Cond.instanceMethod yX0_takeOut ∈ gU ∧ Cond.selects RX0 yX0_takeOut yX0_takeOut ∈ gU ∧ Cond.initialized RX0 ∈ gU ∧ Cond.code yX0_takeOut cX0_takeOut 3 (none) ∈ gU ∧ (yX0_takeOut.cls = RX0 ∧ yX0_takeOut.cls ≠ "java/lang/invoke/MethodHandle" ∧ yX0_takeOut.cls ≠ "java/lang/invoke/VarHandle" ∧ (parseMethodDescriptor yX0_takeOut.desc).map (fun d => d.parameters.length) = some 1) := ⟨t_2 (i := 95) rfl rfl, t_2 (i := 96) rfl rfl, t_1 (i := 5) rfl rfl, t_2 (i := 97) rfl rfl, by decide +kernel⟩
theorem mi_X1_init : Cond.instanceMethod yX1_init ∈ gU ∧ Cond.initialized RX1 ∈ gU ∧ Cond.code yX1_init cX1_init 3 (none) ∈ gU := ⟨t_1 (i := 127) rfl rfl, t_1 (i := 6) rfl rfl, t_1 (i := 128) rfl rfl⟩
theorem mv_X1_begin : Cond.instanceMethod yX1_begin ∈ gU ∧ Cond.selects RX1 yX1_begin yX1_begin ∈ gU ∧ Cond.initialized RX1 ∈ gU ∧ Cond.code yX1_begin cX1_begin 1 (none) ∈ gU ∧ (yX1_begin.cls = RX1 ∧ yX1_begin.cls ≠ "java/lang/invoke/MethodHandle" ∧ yX1_begin.cls ≠ "java/lang/invoke/VarHandle" ∧ (parseMethodDescriptor yX1_begin.desc).map (fun d => d.parameters.length) = some 0) := ⟨t_2 (i := 61) rfl rfl, t_2 (i := 62) rfl rfl, t_1 (i := 6) rfl rfl, t_2 (i := 63) rfl rfl, by decide +kernel⟩
theorem mv_X1_go : Cond.instanceMethod yX1_go ∈ gU ∧ Cond.selects RX1 yX1_go yX1_go ∈ gU ∧ Cond.initialized RX1 ∈ gU ∧ Cond.code yX1_go cX1_go 6 (none) ∈ gU ∧ (yX1_go.cls = RX1 ∧ yX1_go.cls ≠ "java/lang/invoke/MethodHandle" ∧ yX1_go.cls ≠ "java/lang/invoke/VarHandle" ∧ (parseMethodDescriptor yX1_go.desc).map (fun d => d.parameters.length) = some 0) := ⟨t_2 (i := 73) rfl rfl, t_2 (i := 74) rfl rfl, t_1 (i := 6) rfl rfl, t_2 (i := 75) rfl rfl, by decide +kernel⟩
theorem mv_X1_leaveAt : Cond.instanceMethod yX1_leaveAt ∈ gU ∧ Cond.selects RX1 yX1_leaveAt yX1_leaveAt ∈ gU ∧ Cond.initialized RX1 ∈ gU ∧ Cond.code yX1_leaveAt cX1_leaveAt 5 (some .boolean) ∈ gU ∧ (yX1_leaveAt.cls = RX1 ∧ yX1_leaveAt.cls ≠ "java/lang/invoke/MethodHandle" ∧ yX1_leaveAt.cls ≠ "java/lang/invoke/VarHandle" ∧ (parseMethodDescriptor yX1_leaveAt.desc).map (fun d => d.parameters.length) = some 1) := ⟨t_2 (i := 78) rfl rfl, t_s (i := 2) rfl rfl, t_1 (i := 6) rfl rfl, t_2 (i := 79) rfl rfl, by decide +kernel⟩
theorem mv_X1_changeAt : Cond.instanceMethod yX1_changeAt ∈ gU ∧ Cond.selects RX1 yX1_changeAt yX1_changeAt ∈ gU ∧ Cond.initialized RX1 ∈ gU ∧ Cond.code yX1_changeAt cX1_changeAt 5 (none) ∈ gU ∧ (yX1_changeAt.cls = RX1 ∧ yX1_changeAt.cls ≠ "java/lang/invoke/MethodHandle" ∧ yX1_changeAt.cls ≠ "java/lang/invoke/VarHandle" ∧ (parseMethodDescriptor yX1_changeAt.desc).map (fun d => d.parameters.length) = some 2) := ⟨t_2 (i := 83) rfl rfl, t_s (i := 3) rfl rfl, t_1 (i := 6) rfl rfl, t_2 (i := 84) rfl rfl, by decide +kernel⟩
theorem mv_X1_takeWhole : Cond.instanceMethod yX1_takeWhole ∈ gU ∧ Cond.selects RX1 yX1_takeWhole yX1_takeWhole ∈ gU ∧ Cond.initialized RX1 ∈ gU ∧ Cond.code yX1_takeWhole cX1_takeWhole 3 (some .boolean) ∈ gU ∧ (yX1_takeWhole.cls = RX1 ∧ yX1_takeWhole.cls ≠ "java/lang/invoke/MethodHandle" ∧ yX1_takeWhole.cls ≠ "java/lang/invoke/VarHandle" ∧ (parseMethodDescriptor yX1_takeWhole.desc).map (fun d => d.parameters.length) = some 1) := ⟨t_2 (i := 88) rfl rfl, t_s (i := 4) rfl rfl, t_1 (i := 6) rfl rfl, t_2 (i := 89) rfl rfl, by decide +kernel⟩
theorem mv_X1_takeTorn : Cond.instanceMethod yX1_takeTorn ∈ gU ∧ Cond.selects RX1 yX1_takeTorn yX1_takeTorn ∈ gU ∧ Cond.initialized RX1 ∈ gU ∧ Cond.code yX1_takeTorn cX1_takeTorn 5 (some .boolean) ∈ gU ∧ (yX1_takeTorn.cls = RX1 ∧ yX1_takeTorn.cls ≠ "java/lang/invoke/MethodHandle" ∧ yX1_takeTorn.cls ≠ "java/lang/invoke/VarHandle" ∧ (parseMethodDescriptor yX1_takeTorn.desc).map (fun d => d.parameters.length) = some 2) := ⟨t_2 (i := 100) rfl rfl, t_s (i := 5) rfl rfl, t_1 (i := 6) rfl rfl, t_2 (i := 101) rfl rfl, by decide +kernel⟩
theorem mv_X1_keep : Cond.instanceMethod yX1_keep ∈ gU ∧ Cond.selects RX1 yX1_keep yX1_keep ∈ gU ∧ Cond.initialized RX1 ∈ gU ∧ Cond.code yX1_keep cX1_keep 3 (none) ∈ gU ∧ (yX1_keep.cls = RX1 ∧ yX1_keep.cls ≠ "java/lang/invoke/MethodHandle" ∧ yX1_keep.cls ≠ "java/lang/invoke/VarHandle" ∧ (parseMethodDescriptor yX1_keep.desc).map (fun d => d.parameters.length) = some 1) := ⟨t_2 (i := 104) rfl rfl, t_s (i := 6) rfl rfl, t_1 (i := 6) rfl rfl, t_2 (i := 105) rfl rfl, by decide +kernel⟩
theorem mv_X1_hasOn : Cond.instanceMethod yX1_hasOn ∈ gU ∧ Cond.selects RX1 yX1_hasOn yX1_hasOn ∈ gU ∧ Cond.initialized RX1 ∈ gU ∧ Cond.code yX1_hasOn cX1_hasOn 3 (some .int) ∈ gU ∧ (yX1_hasOn.cls = RX1 ∧ yX1_hasOn.cls ≠ "java/lang/invoke/MethodHandle" ∧ yX1_hasOn.cls ≠ "java/lang/invoke/VarHandle" ∧ (parseMethodDescriptor yX1_hasOn.desc).map (fun d => d.parameters.length) = some 2) := ⟨t_2 (i := 196) rfl rfl, t_2 (i := 197) rfl rfl, t_1 (i := 6) rfl rfl, t_2 (i := 198) rfl rfl, by decide +kernel⟩
theorem mv_X1_tornOn : Cond.instanceMethod yX1_tornOn ∈ gU ∧ Cond.selects RX1 yX1_tornOn yX1_tornOn ∈ gU ∧ Cond.initialized RX1 ∈ gU ∧ Cond.code yX1_tornOn cX1_tornOn 2 (some .int) ∈ gU ∧ (yX1_tornOn.cls = RX1 ∧ yX1_tornOn.cls ≠ "java/lang/invoke/MethodHandle" ∧ yX1_tornOn.cls ≠ "java/lang/invoke/VarHandle" ∧ (parseMethodDescriptor yX1_tornOn.desc).map (fun d => d.parameters.length) = some 1) := ⟨t_2 (i := 207) rfl rfl, t_2 (i := 208) rfl rfl, t_1 (i := 6) rfl rfl, t_2 (i := 209) rfl rfl, by decide +kernel⟩
theorem mv_X1_servedOn : Cond.instanceMethod yX1_servedOn ∈ gU ∧ Cond.selects RX1 yX1_servedOn yX1_servedOn ∈ gU ∧ Cond.initialized RX1 ∈ gU ∧ Cond.code yX1_servedOn cX1_servedOn 2 (some .int) ∈ gU ∧ (yX1_servedOn.cls = RX1 ∧ yX1_servedOn.cls ≠ "java/lang/invoke/MethodHandle" ∧ yX1_servedOn.cls ≠ "java/lang/invoke/VarHandle" ∧ (parseMethodDescriptor yX1_servedOn.desc).map (fun d => d.parameters.length) = some 1) := ⟨t_2 (i := 223) rfl rfl, t_2 (i := 224) rfl rfl, t_1 (i := 6) rfl rfl, t_2 (i := 225) rfl rfl, by decide +kernel⟩
theorem mv_X1_bagOn : Cond.instanceMethod yX1_bagOn ∈ gU ∧ Cond.selects RX1 yX1_bagOn yX1_bagOn ∈ gU ∧ Cond.initialized RX1 ∈ gU ∧ Cond.code yX1_bagOn cX1_bagOn 2 (some (.object "AfternoonChange$Bag")) ∈ gU ∧ (yX1_bagOn.cls = RX1 ∧ yX1_bagOn.cls ≠ "java/lang/invoke/MethodHandle" ∧ yX1_bagOn.cls ≠ "java/lang/invoke/VarHandle" ∧ (parseMethodDescriptor yX1_bagOn.desc).map (fun d => d.parameters.length) = some 1) := ⟨t_2 (i := 215) rfl rfl, t_2 (i := 216) rfl rfl, t_1 (i := 6) rfl rfl, t_2 (i := 217) rfl rfl, by decide +kernel⟩
theorem mv_X1_servedAtLast : Cond.instanceMethod yX1_servedAtLast ∈ gU ∧ Cond.selects RX1 yX1_servedAtLast yX1_servedAtLast ∈ gU ∧ Cond.initialized RX1 ∈ gU ∧ Cond.code yX1_servedAtLast cX1_servedAtLast 1 (some .int) ∈ gU ∧ (yX1_servedAtLast.cls = RX1 ∧ yX1_servedAtLast.cls ≠ "java/lang/invoke/MethodHandle" ∧ yX1_servedAtLast.cls ≠ "java/lang/invoke/VarHandle" ∧ (parseMethodDescriptor yX1_servedAtLast.desc).map (fun d => d.parameters.length) = some 0) := ⟨t_3 (i := 33) rfl rfl, t_3 (i := 34) rfl rfl, t_1 (i := 6) rfl rfl, t_3 (i := 35) rfl rfl, by decide +kernel⟩
theorem mi_X2_init : Cond.instanceMethod yX2_init ∈ gU ∧ Cond.initialized RX2 ∈ gU ∧ Cond.code yX2_init cX2_init 1 (none) ∈ gU := ⟨t_1 (i := 237) rfl rfl, t_1 (i := 9) rfl rfl, t_1 (i := 238) rfl rfl⟩
theorem mv_X2_isLost : Cond.instanceMethod yX2_isLost ∈ gU ∧ Cond.selects RX2 yX2_isLost yX2_isLost ∈ gU ∧ Cond.initialized RX2 ∈ gU ∧ Cond.code yX2_isLost cX2_isLost 1 (some .boolean) ∈ gU ∧ (yX2_isLost.cls = RX2 ∧ yX2_isLost.cls ≠ "java/lang/invoke/MethodHandle" ∧ yX2_isLost.cls ≠ "java/lang/invoke/VarHandle" ∧ (parseMethodDescriptor yX2_isLost.desc).map (fun d => d.parameters.length) = some 0) := ⟨t_3 (i := 71) rfl rfl, t_3 (i := 72) rfl rfl, t_1 (i := 9) rfl rfl, t_3 (i := 73) rfl rfl, by decide +kernel⟩
theorem mv_X2_startAnew : Cond.instanceMethod yX2_startAnew ∈ gU ∧ Cond.selects RX2 yX2_startAnew yX2_startAnew ∈ gU ∧ Cond.initialized RX2 ∈ gU ∧ Cond.code yX2_startAnew cX2_startAnew 3 (none) ∈ gU ∧ (yX2_startAnew.cls = RX2 ∧ yX2_startAnew.cls ≠ "java/lang/invoke/MethodHandle" ∧ yX2_startAnew.cls ≠ "java/lang/invoke/VarHandle" ∧ (parseMethodDescriptor yX2_startAnew.desc).map (fun d => d.parameters.length) = some 2) := ⟨t_3 (i := 129) rfl rfl, t_3 (i := 130) rfl rfl, t_1 (i := 9) rfl rfl, t_3 (i := 131) rfl rfl, by decide +kernel⟩
theorem mv_X2_giveUp : Cond.instanceMethod yX2_giveUp ∈ gU ∧ Cond.selects RX2 yX2_giveUp yX2_giveUp ∈ gU ∧ Cond.initialized RX2 ∈ gU ∧ Cond.code yX2_giveUp cX2_giveUp 1 (none) ∈ gU ∧ (yX2_giveUp.cls = RX2 ∧ yX2_giveUp.cls ≠ "java/lang/invoke/MethodHandle" ∧ yX2_giveUp.cls ≠ "java/lang/invoke/VarHandle" ∧ (parseMethodDescriptor yX2_giveUp.desc).map (fun d => d.parameters.length) = some 0) := ⟨t_3 (i := 138) rfl rfl, t_3 (i := 139) rfl rfl, t_1 (i := 9) rfl rfl, t_3 (i := 140) rfl rfl, by decide +kernel⟩
theorem mv_X2_hasItems : Cond.instanceMethod yX2_hasItems ∈ gU ∧ Cond.selects RX2 yX2_hasItems yX2_hasItems ∈ gU ∧ Cond.initialized RX2 ∈ gU ∧ Cond.code yX2_hasItems cX2_hasItems 3 (some .boolean) ∈ gU ∧ (yX2_hasItems.cls = RX2 ∧ yX2_hasItems.cls ≠ "java/lang/invoke/MethodHandle" ∧ yX2_hasItems.cls ≠ "java/lang/invoke/VarHandle" ∧ (parseMethodDescriptor yX2_hasItems.desc).map (fun d => d.parameters.length) = some 2) := ⟨t_3 (i := 150) rfl rfl, t_3 (i := 151) rfl rfl, t_1 (i := 9) rfl rfl, t_3 (i := 152) rfl rfl, by decide +kernel⟩
theorem mv_X2_put : Cond.instanceMethod yX2_put ∈ gU ∧ Cond.selects RX2 yX2_put yX2_put ∈ gU ∧ Cond.initialized RX2 ∈ gU ∧ Cond.code yX2_put cX2_put 3 (none) ∈ gU ∧ (yX2_put.cls = RX2 ∧ yX2_put.cls ≠ "java/lang/invoke/MethodHandle" ∧ yX2_put.cls ≠ "java/lang/invoke/VarHandle" ∧ (parseMethodDescriptor yX2_put.desc).map (fun d => d.parameters.length) = some 2) := ⟨t_3 (i := 154) rfl rfl, t_3 (i := 155) rfl rfl, t_1 (i := 9) rfl rfl, t_3 (i := 156) rfl rfl, by decide +kernel⟩
theorem mi_X3_init : Cond.instanceMethod yX3_init ∈ gU ∧ Cond.initialized RX3 ∈ gU ∧ Cond.code yX3_init cX3_init 1 (none) ∈ gU := ⟨t_1 (i := 216) rfl rfl, t_1 (i := 8) rfl rfl, t_1 (i := 217) rfl rfl⟩
theorem ms_X3_mayBe : Cond.static yX3_mayBe ∈ gU ∧ Cond.initialized yX3_mayBe.cls ∈ gU ∧ Cond.code yX3_mayBe cX3_mayBe 3 (some .boolean) ∈ gU ∧ (yX3_mayBe.cls ≠ "java/lang/invoke/MethodHandle" ∧ yX3_mayBe.cls ≠ "java/lang/invoke/VarHandle" ∧ (parseMethodDescriptor yX3_mayBe.desc).map (fun d => d.parameters.length) = some 3) := ⟨t_3 (i := 50) rfl rfl, t_1 (i := 8) rfl rfl, t_3 (i := 51) rfl rfl, by decide +kernel⟩
theorem mv_X3_isFull : Cond.instanceMethod yX3_isFull ∈ gU ∧ Cond.selects RX3 yX3_isFull yX3_isFull ∈ gU ∧ Cond.initialized RX3 ∈ gU ∧ Cond.code yX3_isFull cX3_isFull 1 (some .boolean) ∈ gU ∧ (yX3_isFull.cls = RX3 ∧ yX3_isFull.cls ≠ "java/lang/invoke/MethodHandle" ∧ yX3_isFull.cls ≠ "java/lang/invoke/VarHandle" ∧ (parseMethodDescriptor yX3_isFull.desc).map (fun d => d.parameters.length) = some 0) := ⟨t_3 (i := 54) rfl rfl, t_3 (i := 55) rfl rfl, t_1 (i := 8) rfl rfl, t_3 (i := 56) rfl rfl, by decide +kernel⟩
theorem mv_X3_append : Cond.instanceMethod yX3_append ∈ gU ∧ Cond.selects RX3 yX3_append yX3_append ∈ gU ∧ Cond.initialized RX3 ∈ gU ∧ Cond.code yX3_append cX3_append 4 (none) ∈ gU ∧ (yX3_append.cls = RX3 ∧ yX3_append.cls ≠ "java/lang/invoke/MethodHandle" ∧ yX3_append.cls ≠ "java/lang/invoke/VarHandle" ∧ (parseMethodDescriptor yX3_append.desc).map (fun d => d.parameters.length) = some 3) := ⟨t_3 (i := 58) rfl rfl, t_3 (i := 59) rfl rfl, t_1 (i := 8) rfl rfl, t_3 (i := 60) rfl rfl, by decide +kernel⟩
theorem mv_X3_comeOutIn : Cond.instanceMethod yX3_comeOutIn ∈ gU ∧ Cond.selects RX3 yX3_comeOutIn yX3_comeOutIn ∈ gU ∧ Cond.initialized RX3 ∈ gU ∧ Cond.code yX3_comeOutIn cX3_comeOutIn 5 (some .boolean) ∈ gU ∧ (yX3_comeOutIn.cls = RX3 ∧ yX3_comeOutIn.cls ≠ "java/lang/invoke/MethodHandle" ∧ yX3_comeOutIn.cls ≠ "java/lang/invoke/VarHandle" ∧ (parseMethodDescriptor yX3_comeOutIn.desc).map (fun d => d.parameters.length) = some 2) := ⟨t_3 (i := 83) rfl rfl, t_3 (i := 84) rfl rfl, t_1 (i := 8) rfl rfl, t_3 (i := 85) rfl rfl, by decide +kernel⟩
theorem mi_X4_init : Cond.instanceMethod yX4_init ∈ gU ∧ Cond.initialized RX4 ∈ gU ∧ Cond.code yX4_init cX4_init 1 (none) ∈ gU := ⟨t_1 (i := 196) rfl rfl, t_1 (i := 7) rfl rfl, t_1 (i := 197) rfl rfl⟩
theorem mv_X4_startAnew : Cond.instanceMethod yX4_startAnew ∈ gU ∧ Cond.selects RX4 yX4_startAnew yX4_startAnew ∈ gU ∧ Cond.initialized RX4 ∈ gU ∧ Cond.code yX4_startAnew cX4_startAnew 4 (none) ∈ gU ∧ (yX4_startAnew.cls = RX4 ∧ yX4_startAnew.cls ≠ "java/lang/invoke/MethodHandle" ∧ yX4_startAnew.cls ≠ "java/lang/invoke/VarHandle" ∧ (parseMethodDescriptor yX4_startAnew.desc).map (fun d => d.parameters.length) = some 1) := ⟨t_2 (i := 53) rfl rfl, t_2 (i := 54) rfl rfl, t_1 (i := 7) rfl rfl, t_2 (i := 55) rfl rfl, by decide +kernel⟩
theorem mv_X4_servedBy : Cond.instanceMethod yX4_servedBy ∈ gU ∧ Cond.selects RX4 yX4_servedBy yX4_servedBy ∈ gU ∧ Cond.initialized RX4 ∈ gU ∧ Cond.code yX4_servedBy cX4_servedBy 6 (some .int) ∈ gU ∧ (yX4_servedBy.cls = RX4 ∧ yX4_servedBy.cls ≠ "java/lang/invoke/MethodHandle" ∧ yX4_servedBy.cls ≠ "java/lang/invoke/VarHandle" ∧ (parseMethodDescriptor yX4_servedBy.desc).map (fun d => d.parameters.length) = some 3) := ⟨t_3 (i := 17) rfl rfl, t_3 (i := 18) rfl rfl, t_1 (i := 7) rfl rfl, t_3 (i := 19) rfl rfl, by decide +kernel⟩
theorem mi_X5_init : Cond.instanceMethod yX5_init ∈ gU ∧ Cond.initialized RX5 ∈ gU ∧ Cond.code yX5_init cX5_init 2 (none) ∈ gU := ⟨t_1 (i := 26) rfl rfl, t_1 (i := 2) rfl rfl, t_1 (i := 27) rfl rfl⟩
theorem mv_X5_isFull : Cond.instanceMethod yX5_isFull ∈ gU ∧ Cond.selects RX5 yX5_isFull yX5_isFull ∈ gU ∧ Cond.initialized RX5 ∈ gU ∧ Cond.code yX5_isFull cX5_isFull 1 (some .boolean) ∈ gU ∧ (yX5_isFull.cls = RX5 ∧ yX5_isFull.cls ≠ "java/lang/invoke/MethodHandle" ∧ yX5_isFull.cls ≠ "java/lang/invoke/VarHandle" ∧ (parseMethodDescriptor yX5_isFull.desc).map (fun d => d.parameters.length) = some 0) := ⟨t_2 (i := 145) rfl rfl, t_2 (i := 146) rfl rfl, t_1 (i := 2) rfl rfl, t_2 (i := 147) rfl rfl, by decide +kernel⟩
theorem mv_X5_append : Cond.instanceMethod yX5_append ∈ gU ∧ Cond.selects RX5 yX5_append yX5_append ∈ gU ∧ Cond.initialized RX5 ∈ gU ∧ Cond.code yX5_append cX5_append 2 (none) ∈ gU ∧ (yX5_append.cls = RX5 ∧ yX5_append.cls ≠ "java/lang/invoke/MethodHandle" ∧ yX5_append.cls ≠ "java/lang/invoke/VarHandle" ∧ (parseMethodDescriptor yX5_append.desc).map (fun d => d.parameters.length) = some 1) := ⟨t_2 (i := 149) rfl rfl, t_2 (i := 150) rfl rfl, t_1 (i := 2) rfl rfl, t_2 (i := 151) rfl rfl, by decide +kernel⟩
theorem mv_X5_faultAsRiders : Cond.instanceMethod yX5_faultAsRiders ∈ gU ∧ Cond.selects RX5 yX5_faultAsRiders yX5_faultAsRiders ∈ gU ∧ Cond.initialized RX5 ∈ gU ∧ Cond.code yX5_faultAsRiders cX5_faultAsRiders 2 (some .int) ∈ gU ∧ (yX5_faultAsRiders.cls = RX5 ∧ yX5_faultAsRiders.cls ≠ "java/lang/invoke/MethodHandle" ∧ yX5_faultAsRiders.cls ≠ "java/lang/invoke/VarHandle" ∧ (parseMethodDescriptor yX5_faultAsRiders.desc).map (fun d => d.parameters.length) = some 0) := ⟨t_2 (i := 26) rfl rfl, t_2 (i := 27) rfl rfl, t_1 (i := 2) rfl rfl, t_2 (i := 28) rfl rfl, by decide +kernel⟩
theorem mv_X5_faultAsBag : Cond.instanceMethod yX5_faultAsBag ∈ gU ∧ Cond.selects RX5 yX5_faultAsBag yX5_faultAsBag ∈ gU ∧ Cond.initialized RX5 ∈ gU ∧ Cond.code yX5_faultAsBag cX5_faultAsBag 2 (some .int) ∈ gU ∧ (yX5_faultAsBag.cls = RX5 ∧ yX5_faultAsBag.cls ≠ "java/lang/invoke/MethodHandle" ∧ yX5_faultAsBag.cls ≠ "java/lang/invoke/VarHandle" ∧ (parseMethodDescriptor yX5_faultAsBag.desc).map (fun d => d.parameters.length) = some 0) := ⟨t_2 (i := 41) rfl rfl, t_2 (i := 42) rfl rfl, t_1 (i := 2) rfl rfl, t_2 (i := 43) rfl rfl, by decide +kernel⟩
theorem ms_X5_fitsRider : Cond.static yX5_fitsRider ∈ gU ∧ Cond.initialized yX5_fitsRider.cls ∈ gU ∧ Cond.code yX5_fitsRider cX5_fitsRider 2 (some .boolean) ∈ gU ∧ (yX5_fitsRider.cls ≠ "java/lang/invoke/MethodHandle" ∧ yX5_fitsRider.cls ≠ "java/lang/invoke/VarHandle" ∧ (parseMethodDescriptor yX5_fitsRider.desc).map (fun d => d.parameters.length) = some 2) := ⟨t_2 (i := 30) rfl rfl, t_1 (i := 2) rfl rfl, t_2 (i := 31) rfl rfl, by decide +kernel⟩
theorem ms_X5_kindOf : Cond.static yX5_kindOf ∈ gU ∧ Cond.initialized yX5_kindOf.cls ∈ gU ∧ Cond.code yX5_kindOf cX5_kindOf 1 (some .int) ∈ gU ∧ (yX5_kindOf.cls ≠ "java/lang/invoke/MethodHandle" ∧ yX5_kindOf.cls ≠ "java/lang/invoke/VarHandle" ∧ (parseMethodDescriptor yX5_kindOf.desc).map (fun d => d.parameters.length) = some 1) := ⟨t_2 (i := 45) rfl rfl, t_1 (i := 2) rfl rfl, t_2 (i := 46) rfl rfl, by decide +kernel⟩
theorem mi_X6_init : Cond.instanceMethod yX6_init ∈ gU ∧ Cond.initialized RX6 ∈ gU ∧ Cond.code yX6_init cX6_init 1 (none) ∈ gU := ⟨t_1 (i := 46) rfl rfl, t_1 (i := 4) rfl rfl, t_1 (i := 47) rfl rfl⟩
theorem mv_X6_readRiders : Cond.instanceMethod yX6_readRiders ∈ gU ∧ Cond.selects RX6 yX6_readRiders yX6_readRiders ∈ gU ∧ Cond.initialized RX6 ∈ gU ∧ Cond.code yX6_readRiders cX6_readRiders 3 (none) ∈ gU ∧ (yX6_readRiders.cls = RX6 ∧ yX6_readRiders.cls ≠ "java/lang/invoke/MethodHandle" ∧ yX6_readRiders.cls ≠ "java/lang/invoke/VarHandle" ∧ (parseMethodDescriptor yX6_readRiders.desc).map (fun d => d.parameters.length) = some 1) := ⟨t_2 (i := 19) rfl rfl, t_2 (i := 20) rfl rfl, t_1 (i := 4) rfl rfl, t_2 (i := 21) rfl rfl, by decide +kernel⟩
theorem mv_X6_placeOnBoard : Cond.instanceMethod yX6_placeOnBoard ∈ gU ∧ Cond.selects RX6 yX6_placeOnBoard yX6_placeOnBoard ∈ gU ∧ Cond.initialized RX6 ∈ gU ∧ Cond.code yX6_placeOnBoard cX6_placeOnBoard 3 (none) ∈ gU ∧ (yX6_placeOnBoard.cls = RX6 ∧ yX6_placeOnBoard.cls ≠ "java/lang/invoke/MethodHandle" ∧ yX6_placeOnBoard.cls ≠ "java/lang/invoke/VarHandle" ∧ (parseMethodDescriptor yX6_placeOnBoard.desc).map (fun d => d.parameters.length) = some 1) := ⟨t_2 (i := 34) rfl rfl, t_s (i := 1) rfl rfl, t_1 (i := 4) rfl rfl, t_2 (i := 35) rfl rfl, by decide +kernel⟩
theorem mv_X6_readBag : Cond.instanceMethod yX6_readBag ∈ gU ∧ Cond.selects RX6 yX6_readBag yX6_readBag ∈ gU ∧ Cond.initialized RX6 ∈ gU ∧ Cond.code yX6_readBag cX6_readBag 4 (none) ∈ gU ∧ (yX6_readBag.cls = RX6 ∧ yX6_readBag.cls ≠ "java/lang/invoke/MethodHandle" ∧ yX6_readBag.cls ≠ "java/lang/invoke/VarHandle" ∧ (parseMethodDescriptor yX6_readBag.desc).map (fun d => d.parameters.length) = some 1) := ⟨t_2 (i := 37) rfl rfl, t_2 (i := 38) rfl rfl, t_1 (i := 4) rfl rfl, t_2 (i := 39) rfl rfl, by decide +kernel⟩
theorem mv_X6_mayChange : Cond.instanceMethod yX6_mayChange ∈ gU ∧ Cond.selects RX6 yX6_mayChange yX6_mayChange ∈ gU ∧ Cond.initialized RX6 ∈ gU ∧ Cond.code yX6_mayChange cX6_mayChange 5 (some .boolean) ∈ gU ∧ (yX6_mayChange.cls = RX6 ∧ yX6_mayChange.cls ≠ "java/lang/invoke/MethodHandle" ∧ yX6_mayChange.cls ≠ "java/lang/invoke/VarHandle" ∧ (parseMethodDescriptor yX6_mayChange.desc).map (fun d => d.parameters.length) = some 3) := ⟨t_2 (i := 57) rfl rfl, t_2 (i := 58) rfl rfl, t_1 (i := 4) rfl rfl, t_2 (i := 59) rfl rfl, by decide +kernel⟩
theorem mv_X6_isRing : Cond.instanceMethod yX6_isRing ∈ gU ∧ Cond.selects RX6 yX6_isRing yX6_isRing ∈ gU ∧ Cond.initialized RX6 ∈ gU ∧ Cond.code yX6_isRing cX6_isRing 4 (some .boolean) ∈ gU ∧ (yX6_isRing.cls = RX6 ∧ yX6_isRing.cls ≠ "java/lang/invoke/MethodHandle" ∧ yX6_isRing.cls ≠ "java/lang/invoke/VarHandle" ∧ (parseMethodDescriptor yX6_isRing.desc).map (fun d => d.parameters.length) = some 3) := ⟨t_3 (i := 3) rfl rfl, t_3 (i := 4) rfl rfl, t_1 (i := 4) rfl rfl, t_3 (i := 5) rfl rfl, by decide +kernel⟩
theorem mi_X7_init : Cond.instanceMethod yX7_init ∈ gU ∧ Cond.initialized RX7 ∈ gU ∧ Cond.code yX7_init cX7_init 1 (none) ∈ gU := ⟨t_1 (i := 17) rfl rfl, t_1 (i := 1) rfl rfl, t_1 (i := 18) rfl rfl⟩
theorem mv_X7_type : Cond.instanceMethod yX7_type ∈ gU ∧ Cond.selects RX7 yX7_type yX7_type ∈ gU ∧ Cond.initialized RX7 ∈ gU ∧ Cond.code yX7_type cX7_type 3 (some .int) ∈ gU ∧ (yX7_type.cls = RX7 ∧ yX7_type.cls ≠ "java/lang/invoke/MethodHandle" ∧ yX7_type.cls ≠ "java/lang/invoke/VarHandle" ∧ (parseMethodDescriptor yX7_type.desc).map (fun d => d.parameters.length) = some 2) := ⟨t_2 (i := 138) rfl rfl, t_2 (i := 139) rfl rfl, t_1 (i := 1) rfl rfl, t_2 (i := 140) rfl rfl, by decide +kernel⟩
theorem mv_X7_wipe : Cond.instanceMethod yX7_wipe ∈ gU ∧ Cond.selects RX7 yX7_wipe yX7_wipe ∈ gU ∧ Cond.initialized RX7 ∈ gU ∧ Cond.code yX7_wipe cX7_wipe 3 (some .int) ∈ gU ∧ (yX7_wipe.cls = RX7 ∧ yX7_wipe.cls ≠ "java/lang/invoke/MethodHandle" ∧ yX7_wipe.cls ≠ "java/lang/invoke/VarHandle" ∧ (parseMethodDescriptor yX7_wipe.desc).map (fun d => d.parameters.length) = some 1) := ⟨t_2 (i := 154) rfl rfl, t_2 (i := 155) rfl rfl, t_1 (i := 1) rfl rfl, t_2 (i := 156) rfl rfl, by decide +kernel⟩
theorem mv_X7_undo : Cond.instanceMethod yX7_undo ∈ gU ∧ Cond.selects RX7 yX7_undo yX7_undo ∈ gU ∧ Cond.initialized RX7 ∈ gU ∧ Cond.code yX7_undo cX7_undo 2 (some .int) ∈ gU ∧ (yX7_undo.cls = RX7 ∧ yX7_undo.cls ≠ "java/lang/invoke/MethodHandle" ∧ yX7_undo.cls ≠ "java/lang/invoke/VarHandle" ∧ (parseMethodDescriptor yX7_undo.desc).map (fun d => d.parameters.length) = some 1) := ⟨t_2 (i := 158) rfl rfl, t_2 (i := 159) rfl rfl, t_1 (i := 1) rfl rfl, t_2 (i := 160) rfl rfl, by decide +kernel⟩
theorem mv_X7_fault : Cond.instanceMethod yX7_fault ∈ gU ∧ Cond.selects RX7 yX7_fault yX7_fault ∈ gU ∧ Cond.initialized RX7 ∈ gU ∧ Cond.code yX7_fault cX7_fault 2 (some .int) ∈ gU ∧ (yX7_fault.cls = RX7 ∧ yX7_fault.cls ≠ "java/lang/invoke/MethodHandle" ∧ yX7_fault.cls ≠ "java/lang/invoke/VarHandle" ∧ (parseMethodDescriptor yX7_fault.desc).map (fun d => d.parameters.length) = some 1) := ⟨t_2 (i := 162) rfl rfl, t_2 (i := 163) rfl rfl, t_1 (i := 1) rfl rfl, t_2 (i := 164) rfl rfl, by decide +kernel⟩
theorem mv_X7_rider : Cond.instanceMethod yX7_rider ∈ gU ∧ Cond.selects RX7 yX7_rider yX7_rider ∈ gU ∧ Cond.initialized RX7 ∈ gU ∧ Cond.code yX7_rider cX7_rider 3 (some .int) ∈ gU ∧ (yX7_rider.cls = RX7 ∧ yX7_rider.cls ≠ "java/lang/invoke/MethodHandle" ∧ yX7_rider.cls ≠ "java/lang/invoke/VarHandle" ∧ (parseMethodDescriptor yX7_rider.desc).map (fun d => d.parameters.length) = some 2) := ⟨t_2 (i := 168) rfl rfl, t_2 (i := 169) rfl rfl, t_1 (i := 1) rfl rfl, t_2 (i := 170) rfl rfl, by decide +kernel⟩
theorem mv_X7_worth : Cond.instanceMethod yX7_worth ∈ gU ∧ Cond.selects RX7 yX7_worth yX7_worth ∈ gU ∧ Cond.initialized RX7 ∈ gU ∧ Cond.code yX7_worth cX7_worth 4 (some .int) ∈ gU ∧ (yX7_worth.cls = RX7 ∧ yX7_worth.cls ≠ "java/lang/invoke/MethodHandle" ∧ yX7_worth.cls ≠ "java/lang/invoke/VarHandle" ∧ (parseMethodDescriptor yX7_worth.desc).map (fun d => d.parameters.length) = some 2) := ⟨t_2 (i := 172) rfl rfl, t_2 (i := 173) rfl rfl, t_1 (i := 1) rfl rfl, t_2 (i := 174) rfl rfl, by decide +kernel⟩
theorem mv_X7_set : Cond.instanceMethod yX7_set ∈ gU ∧ Cond.selects RX7 yX7_set yX7_set ∈ gU ∧ Cond.initialized RX7 ∈ gU ∧ Cond.code yX7_set cX7_set 3 (some .int) ∈ gU ∧ (yX7_set.cls = RX7 ∧ yX7_set.cls ≠ "java/lang/invoke/MethodHandle" ∧ yX7_set.cls ≠ "java/lang/invoke/VarHandle" ∧ (parseMethodDescriptor yX7_set.desc).map (fun d => d.parameters.length) = some 2) := ⟨t_2 (i := 176) rfl rfl, t_2 (i := 177) rfl rfl, t_1 (i := 1) rfl rfl, t_2 (i := 178) rfl rfl, by decide +kernel⟩
theorem mv_X7_has : Cond.instanceMethod yX7_has ∈ gU ∧ Cond.selects RX7 yX7_has yX7_has ∈ gU ∧ Cond.initialized RX7 ∈ gU ∧ Cond.code yX7_has cX7_has 3 (some .int) ∈ gU ∧ (yX7_has.cls = RX7 ∧ yX7_has.cls ≠ "java/lang/invoke/MethodHandle" ∧ yX7_has.cls ≠ "java/lang/invoke/VarHandle" ∧ (parseMethodDescriptor yX7_has.desc).map (fun d => d.parameters.length) = some 2) := ⟨t_2 (i := 192) rfl rfl, t_2 (i := 193) rfl rfl, t_1 (i := 1) rfl rfl, t_2 (i := 194) rfl rfl, by decide +kernel⟩
theorem mv_X7_torn : Cond.instanceMethod yX7_torn ∈ gU ∧ Cond.selects RX7 yX7_torn yX7_torn ∈ gU ∧ Cond.initialized RX7 ∈ gU ∧ Cond.code yX7_torn cX7_torn 3 (some .int) ∈ gU ∧ (yX7_torn.cls = RX7 ∧ yX7_torn.cls ≠ "java/lang/invoke/MethodHandle" ∧ yX7_torn.cls ≠ "java/lang/invoke/VarHandle" ∧ (parseMethodDescriptor yX7_torn.desc).map (fun d => d.parameters.length) = some 2) := ⟨t_2 (i := 203) rfl rfl, t_2 (i := 204) rfl rfl, t_1 (i := 1) rfl rfl, t_2 (i := 205) rfl rfl, by decide +kernel⟩
theorem mv_X7_bag : Cond.instanceMethod yX7_bag ∈ gU ∧ Cond.selects RX7 yX7_bag yX7_bag ∈ gU ∧ Cond.initialized RX7 ∈ gU ∧ Cond.code yX7_bag cX7_bag 4 (some .int) ∈ gU ∧ (yX7_bag.cls = RX7 ∧ yX7_bag.cls ≠ "java/lang/invoke/MethodHandle" ∧ yX7_bag.cls ≠ "java/lang/invoke/VarHandle" ∧ (parseMethodDescriptor yX7_bag.desc).map (fun d => d.parameters.length) = some 2) := ⟨t_2 (i := 211) rfl rfl, t_2 (i := 212) rfl rfl, t_1 (i := 1) rfl rfl, t_2 (i := 213) rfl rfl, by decide +kernel⟩
theorem mv_X7_gets : Cond.instanceMethod yX7_gets ∈ gU ∧ Cond.selects RX7 yX7_gets yX7_gets ∈ gU ∧ Cond.initialized RX7 ∈ gU ∧ Cond.code yX7_gets cX7_gets 3 (some .int) ∈ gU ∧ (yX7_gets.cls = RX7 ∧ yX7_gets.cls ≠ "java/lang/invoke/MethodHandle" ∧ yX7_gets.cls ≠ "java/lang/invoke/VarHandle" ∧ (parseMethodDescriptor yX7_gets.desc).map (fun d => d.parameters.length) = some 1) := ⟨t_2 (i := 219) rfl rfl, t_2 (i := 220) rfl rfl, t_1 (i := 1) rfl rfl, t_2 (i := 221) rfl rfl, by decide +kernel⟩
theorem mv_X7_first : Cond.instanceMethod yX7_first ∈ gU ∧ Cond.selects RX7 yX7_first yX7_first ∈ gU ∧ Cond.initialized RX7 ∈ gU ∧ Cond.code yX7_first cX7_first 2 (some .int) ∈ gU ∧ (yX7_first.cls = RX7 ∧ yX7_first.cls ≠ "java/lang/invoke/MethodHandle" ∧ yX7_first.cls ≠ "java/lang/invoke/VarHandle" ∧ (parseMethodDescriptor yX7_first.desc).map (fun d => d.parameters.length) = some 1) := ⟨t_2 (i := 227) rfl rfl, t_2 (i := 228) rfl rfl, t_1 (i := 1) rfl rfl, t_2 (i := 229) rfl rfl, by decide +kernel⟩
theorem mv_X7_still : Cond.instanceMethod yX7_still ∈ gU ∧ Cond.selects RX7 yX7_still yX7_still ∈ gU ∧ Cond.initialized RX7 ∈ gU ∧ Cond.code yX7_still cX7_still 1 (some .int) ∈ gU ∧ (yX7_still.cls = RX7 ∧ yX7_still.cls ≠ "java/lang/invoke/MethodHandle" ∧ yX7_still.cls ≠ "java/lang/invoke/VarHandle" ∧ (parseMethodDescriptor yX7_still.desc).map (fun d => d.parameters.length) = some 0) := ⟨t_2 (i := 231) rfl rfl, t_2 (i := 232) rfl rfl, t_1 (i := 1) rfl rfl, t_2 (i := 233) rfl rfl, by decide +kernel⟩
theorem mv_X7_served : Cond.instanceMethod yX7_served ∈ gU ∧ Cond.selects RX7 yX7_served yX7_served ∈ gU ∧ Cond.initialized RX7 ∈ gU ∧ Cond.code yX7_served cX7_served 2 (some .int) ∈ gU ∧ (yX7_served.cls = RX7 ∧ yX7_served.cls ≠ "java/lang/invoke/MethodHandle" ∧ yX7_served.cls ≠ "java/lang/invoke/VarHandle" ∧ (parseMethodDescriptor yX7_served.desc).map (fun d => d.parameters.length) = some 1) := ⟨t_2 (i := 235) rfl rfl, t_2 (i := 236) rfl rfl, t_1 (i := 1) rfl rfl, t_2 (i := 237) rfl rfl, by decide +kernel⟩
theorem mv_X7_rings : Cond.instanceMethod yX7_rings ∈ gU ∧ Cond.selects RX7 yX7_rings yX7_rings ∈ gU ∧ Cond.initialized RX7 ∈ gU ∧ Cond.code yX7_rings cX7_rings 7 (some .int) ∈ gU ∧ (yX7_rings.cls = RX7 ∧ yX7_rings.cls ≠ "java/lang/invoke/MethodHandle" ∧ yX7_rings.cls ≠ "java/lang/invoke/VarHandle" ∧ (parseMethodDescriptor yX7_rings.desc).map (fun d => d.parameters.length) = some 1) := ⟨t_2 (i := 239) rfl rfl, t_3 (i := 0) rfl rfl, t_1 (i := 1) rfl rfl, t_3 (i := 1) rfl rfl, by decide +kernel⟩
theorem mv_X7_open : Cond.instanceMethod yX7_open ∈ gU ∧ Cond.selects RX7 yX7_open yX7_open ∈ gU ∧ Cond.initialized RX7 ∈ gU ∧ Cond.code yX7_open cX7_open 5 (some .int) ∈ gU ∧ (yX7_open.cls = RX7 ∧ yX7_open.cls ≠ "java/lang/invoke/MethodHandle" ∧ yX7_open.cls ≠ "java/lang/invoke/VarHandle" ∧ (parseMethodDescriptor yX7_open.desc).map (fun d => d.parameters.length) = some 2) := ⟨t_3 (i := 7) rfl rfl, t_3 (i := 8) rfl rfl, t_1 (i := 1) rfl rfl, t_3 (i := 9) rfl rfl, by decide +kernel⟩
theorem mv_X7_least : Cond.instanceMethod yX7_least ∈ gU ∧ Cond.selects RX7 yX7_least yX7_least ∈ gU ∧ Cond.initialized RX7 ∈ gU ∧ Cond.code yX7_least cX7_least 6 (some .int) ∈ gU ∧ (yX7_least.cls = RX7 ∧ yX7_least.cls ≠ "java/lang/invoke/MethodHandle" ∧ yX7_least.cls ≠ "java/lang/invoke/VarHandle" ∧ (parseMethodDescriptor yX7_least.desc).map (fun d => d.parameters.length) = some 1) := ⟨t_3 (i := 25) rfl rfl, t_3 (i := 26) rfl rfl, t_1 (i := 1) rfl rfl, t_3 (i := 27) rfl rfl, by decide +kernel⟩
theorem mv_X7_top : Cond.instanceMethod yX7_top ∈ gU ∧ Cond.selects RX7 yX7_top yX7_top ∈ gU ∧ Cond.initialized RX7 ∈ gU ∧ Cond.code yX7_top cX7_top 6 (some .int) ∈ gU ∧ (yX7_top.cls = RX7 ∧ yX7_top.cls ≠ "java/lang/invoke/MethodHandle" ∧ yX7_top.cls ≠ "java/lang/invoke/VarHandle" ∧ (parseMethodDescriptor yX7_top.desc).map (fun d => d.parameters.length) = some 1) := ⟨t_3 (i := 38) rfl rfl, t_3 (i := 39) rfl rfl, t_1 (i := 1) rfl rfl, t_3 (i := 40) rfl rfl, by decide +kernel⟩
theorem mv_X7_seen : Cond.instanceMethod yX7_seen ∈ gU ∧ Cond.selects RX7 yX7_seen yX7_seen ∈ gU ∧ Cond.initialized RX7 ∈ gU ∧ Cond.code yX7_seen cX7_seen 4 (some .int) ∈ gU ∧ (yX7_seen.cls = RX7 ∧ yX7_seen.cls ≠ "java/lang/invoke/MethodHandle" ∧ yX7_seen.cls ≠ "java/lang/invoke/VarHandle" ∧ (parseMethodDescriptor yX7_seen.desc).map (fun d => d.parameters.length) = some 3) := ⟨t_3 (i := 46) rfl rfl, t_3 (i := 47) rfl rfl, t_1 (i := 1) rfl rfl, t_3 (i := 48) rfl rfl, by decide +kernel⟩
theorem mv_X7_forget : Cond.instanceMethod yX7_forget ∈ gU ∧ Cond.selects RX7 yX7_forget yX7_forget ∈ gU ∧ Cond.initialized RX7 ∈ gU ∧ Cond.code yX7_forget cX7_forget 2 (some .int) ∈ gU ∧ (yX7_forget.cls = RX7 ∧ yX7_forget.cls ≠ "java/lang/invoke/MethodHandle" ∧ yX7_forget.cls ≠ "java/lang/invoke/VarHandle" ∧ (parseMethodDescriptor yX7_forget.desc).map (fun d => d.parameters.length) = some 0) := ⟨t_3 (i := 63) rfl rfl, t_3 (i := 64) rfl rfl, t_1 (i := 1) rfl rfl, t_3 (i := 65) rfl rfl, by decide +kernel⟩
theorem mv_X7_read : Cond.instanceMethod yX7_read ∈ gU ∧ Cond.selects RX7 yX7_read yX7_read ∈ gU ∧ Cond.initialized RX7 ∈ gU ∧ Cond.code yX7_read cX7_read 5 (some .int) ∈ gU ∧ (yX7_read.cls = RX7 ∧ yX7_read.cls ≠ "java/lang/invoke/MethodHandle" ∧ yX7_read.cls ≠ "java/lang/invoke/VarHandle" ∧ (parseMethodDescriptor yX7_read.desc).map (fun d => d.parameters.length) = some 1) := ⟨t_3 (i := 67) rfl rfl, t_3 (i := 68) rfl rfl, t_1 (i := 1) rfl rfl, t_3 (i := 69) rfl rfl, by decide +kernel⟩
theorem mv_X7_had : Cond.instanceMethod yX7_had ∈ gU ∧ Cond.selects RX7 yX7_had yX7_had ∈ gU ∧ Cond.initialized RX7 ∈ gU ∧ Cond.code yX7_had cX7_had 4 (some .int) ∈ gU ∧ (yX7_had.cls = RX7 ∧ yX7_had.cls ≠ "java/lang/invoke/MethodHandle" ∧ yX7_had.cls ≠ "java/lang/invoke/VarHandle" ∧ (parseMethodDescriptor yX7_had.desc).map (fun d => d.parameters.length) = some 1) := ⟨t_3 (i := 79) rfl rfl, t_3 (i := 80) rfl rfl, t_1 (i := 1) rfl rfl, t_3 (i := 81) rfl rfl, by decide +kernel⟩
theorem mv_X7_was : Cond.instanceMethod yX7_was ∈ gU ∧ Cond.selects RX7 yX7_was yX7_was ∈ gU ∧ Cond.initialized RX7 ∈ gU ∧ Cond.code yX7_was cX7_was 3 (some .int) ∈ gU ∧ (yX7_was.cls = RX7 ∧ yX7_was.cls ≠ "java/lang/invoke/MethodHandle" ∧ yX7_was.cls ≠ "java/lang/invoke/VarHandle" ∧ (parseMethodDescriptor yX7_was.desc).map (fun d => d.parameters.length) = some 0) := ⟨t_3 (i := 88) rfl rfl, t_3 (i := 89) rfl rfl, t_1 (i := 1) rfl rfl, t_3 (i := 90) rfl rfl, by decide +kernel⟩
theorem mv_X7_ask : Cond.instanceMethod yX7_ask ∈ gU ∧ Cond.selects RX7 yX7_ask yX7_ask ∈ gU ∧ Cond.initialized RX7 ∈ gU ∧ Cond.code yX7_ask cX7_ask 6 (some .int) ∈ gU ∧ (yX7_ask.cls = RX7 ∧ yX7_ask.cls ≠ "java/lang/invoke/MethodHandle" ∧ yX7_ask.cls ≠ "java/lang/invoke/VarHandle" ∧ (parseMethodDescriptor yX7_ask.desc).map (fun d => d.parameters.length) = some 1) := ⟨t_3 (i := 92) rfl rfl, t_3 (i := 93) rfl rfl, t_1 (i := 1) rfl rfl, t_3 (i := 94) rfl rfl, by decide +kernel⟩
theorem mv_X7_maybe : Cond.instanceMethod yX7_maybe ∈ gU ∧ Cond.selects RX7 yX7_maybe yX7_maybe ∈ gU ∧ Cond.initialized RX7 ∈ gU ∧ Cond.code yX7_maybe cX7_maybe 11 (some .long) ∈ gU ∧ (yX7_maybe.cls = RX7 ∧ yX7_maybe.cls ≠ "java/lang/invoke/MethodHandle" ∧ yX7_maybe.cls ≠ "java/lang/invoke/VarHandle" ∧ (parseMethodDescriptor yX7_maybe.desc).map (fun d => d.parameters.length) = some 4) := ⟨t_3 (i := 109) rfl rfl, t_3 (i := 110) rfl rfl, t_1 (i := 1) rfl rfl, t_3 (i := 111) rfl rfl, by decide +kernel⟩
theorem mv_X7_depot : Cond.instanceMethod yX7_depot ∈ gU ∧ Cond.selects RX7 yX7_depot yX7_depot ∈ gU ∧ Cond.initialized RX7 ∈ gU ∧ Cond.code yX7_depot cX7_depot 6 (some .int) ∈ gU ∧ (yX7_depot.cls = RX7 ∧ yX7_depot.cls ≠ "java/lang/invoke/MethodHandle" ∧ yX7_depot.cls ≠ "java/lang/invoke/VarHandle" ∧ (parseMethodDescriptor yX7_depot.desc).map (fun d => d.parameters.length) = some 3) := ⟨t_3 (i := 119) rfl rfl, t_3 (i := 120) rfl rfl, t_1 (i := 1) rfl rfl, t_3 (i := 121) rfl rfl, by decide +kernel⟩
theorem mv_X7_sheet : Cond.instanceMethod yX7_sheet ∈ gU ∧ Cond.selects RX7 yX7_sheet yX7_sheet ∈ gU ∧ Cond.initialized RX7 ∈ gU ∧ Cond.code yX7_sheet cX7_sheet 4 (some .int) ∈ gU ∧ (yX7_sheet.cls = RX7 ∧ yX7_sheet.cls ≠ "java/lang/invoke/MethodHandle" ∧ yX7_sheet.cls ≠ "java/lang/invoke/VarHandle" ∧ (parseMethodDescriptor yX7_sheet.desc).map (fun d => d.parameters.length) = some 3) := ⟨t_3 (i := 125) rfl rfl, t_3 (i := 126) rfl rfl, t_1 (i := 1) rfl rfl, t_3 (i := 127) rfl rfl, by decide +kernel⟩
theorem mv_X7_lose : Cond.instanceMethod yX7_lose ∈ gU ∧ Cond.selects RX7 yX7_lose yX7_lose ∈ gU ∧ Cond.initialized RX7 ∈ gU ∧ Cond.code yX7_lose cX7_lose 3 (some .int) ∈ gU ∧ (yX7_lose.cls = RX7 ∧ yX7_lose.cls ≠ "java/lang/invoke/MethodHandle" ∧ yX7_lose.cls ≠ "java/lang/invoke/VarHandle" ∧ (parseMethodDescriptor yX7_lose.desc).map (fun d => d.parameters.length) = some 1) := ⟨t_3 (i := 134) rfl rfl, t_3 (i := 135) rfl rfl, t_1 (i := 1) rfl rfl, t_3 (i := 136) rfl rfl, by decide +kernel⟩
theorem mv_X7_lay : Cond.instanceMethod yX7_lay ∈ gU ∧ Cond.selects RX7 yX7_lay yX7_lay ∈ gU ∧ Cond.initialized RX7 ∈ gU ∧ Cond.code yX7_lay cX7_lay 6 (some .int) ∈ gU ∧ (yX7_lay.cls = RX7 ∧ yX7_lay.cls ≠ "java/lang/invoke/MethodHandle" ∧ yX7_lay.cls ≠ "java/lang/invoke/VarHandle" ∧ (parseMethodDescriptor yX7_lay.desc).map (fun d => d.parameters.length) = some 4) := ⟨t_3 (i := 142) rfl rfl, t_3 (i := 143) rfl rfl, t_1 (i := 1) rfl rfl, t_3 (i := 144) rfl rfl, by decide +kernel⟩
theorem mv_X7_get : Cond.instanceMethod yX7_get ∈ gU ∧ Cond.selects RX7 yX7_get yX7_get ∈ gU ∧ Cond.initialized RX7 ∈ gU ∧ Cond.code yX7_get cX7_get 4 (some .int) ∈ gU ∧ (yX7_get.cls = RX7 ∧ yX7_get.cls ≠ "java/lang/invoke/MethodHandle" ∧ yX7_get.cls ≠ "java/lang/invoke/VarHandle" ∧ (parseMethodDescriptor yX7_get.desc).map (fun d => d.parameters.length) = some 3) := ⟨t_3 (i := 158) rfl rfl, t_3 (i := 159) rfl rfl, t_1 (i := 1) rfl rfl, t_3 (i := 160) rfl rfl, by decide +kernel⟩
theorem mv_X7_copy : Cond.instanceMethod yX7_copy ∈ gU ∧ Cond.selects RX7 yX7_copy yX7_copy ∈ gU ∧ Cond.initialized RX7 ∈ gU ∧ Cond.code yX7_copy cX7_copy 6 (some .int) ∈ gU ∧ (yX7_copy.cls = RX7 ∧ yX7_copy.cls ≠ "java/lang/invoke/MethodHandle" ∧ yX7_copy.cls ≠ "java/lang/invoke/VarHandle" ∧ (parseMethodDescriptor yX7_copy.desc).map (fun d => d.parameters.length) = some 5) := ⟨t_3 (i := 163) rfl rfl, t_3 (i := 164) rfl rfl, t_1 (i := 1) rfl rfl, t_3 (i := 165) rfl rfl, by decide +kernel⟩
theorem mv_X7_write : Cond.instanceMethod yX7_write ∈ gU ∧ Cond.selects RX7 yX7_write yX7_write ∈ gU ∧ Cond.initialized RX7 ∈ gU ∧ Cond.code yX7_write cX7_write 6 (some .int) ∈ gU ∧ (yX7_write.cls = RX7 ∧ yX7_write.cls ≠ "java/lang/invoke/MethodHandle" ∧ yX7_write.cls ≠ "java/lang/invoke/VarHandle" ∧ (parseMethodDescriptor yX7_write.desc).map (fun d => d.parameters.length) = some 2) := ⟨t_3 (i := 168) rfl rfl, t_3 (i := 169) rfl rfl, t_1 (i := 1) rfl rfl, t_3 (i := 170) rfl rfl, by decide +kernel⟩
theorem mv_X7_count : Cond.instanceMethod yX7_count ∈ gU ∧ Cond.selects RX7 yX7_count yX7_count ∈ gU ∧ Cond.initialized RX7 ∈ gU ∧ Cond.code yX7_count cX7_count 2 (some .int) ∈ gU ∧ (yX7_count.cls = RX7 ∧ yX7_count.cls ≠ "java/lang/invoke/MethodHandle" ∧ yX7_count.cls ≠ "java/lang/invoke/VarHandle" ∧ (parseMethodDescriptor yX7_count.desc).map (fun d => d.parameters.length) = some 1) := ⟨t_3 (i := 173) rfl rfl, t_3 (i := 174) rfl rfl, t_1 (i := 1) rfl rfl, t_3 (i := 175) rfl rfl, by decide +kernel⟩
theorem mv_X7_digest : Cond.instanceMethod yX7_digest ∈ gU ∧ Cond.selects RX7 yX7_digest yX7_digest ∈ gU ∧ Cond.initialized RX7 ∈ gU ∧ Cond.code yX7_digest cX7_digest 5 (some .long) ∈ gU ∧ (yX7_digest.cls = RX7 ∧ yX7_digest.cls ≠ "java/lang/invoke/MethodHandle" ∧ yX7_digest.cls ≠ "java/lang/invoke/VarHandle" ∧ (parseMethodDescriptor yX7_digest.desc).map (fun d => d.parameters.length) = some 0) := ⟨t_3 (i := 177) rfl rfl, t_3 (i := 178) rfl rfl, t_1 (i := 1) rfl rfl, t_3 (i := 179) rfl rfl, by decide +kernel⟩
theorem ms_X7_isOutside : Cond.static yX7_isOutside ∈ gU ∧ Cond.initialized yX7_isOutside.cls ∈ gU ∧ Cond.code yX7_isOutside cX7_isOutside 2 (some .boolean) ∈ gU ∧ (yX7_isOutside.cls ≠ "java/lang/invoke/MethodHandle" ∧ yX7_isOutside.cls ≠ "java/lang/invoke/VarHandle" ∧ (parseMethodDescriptor yX7_isOutside.desc).map (fun d => d.parameters.length) = some 2) := ⟨t_2 (i := 142) rfl rfl, t_1 (i := 1) rfl rfl, t_2 (i := 143) rfl rfl, by decide +kernel⟩
theorem ms_X7_mix : Cond.static yX7_mix ∈ gU ∧ Cond.initialized yX7_mix.cls ∈ gU ∧ Cond.code yX7_mix cX7_mix 4 (some .long) ∈ gU ∧ (yX7_mix.cls ≠ "java/lang/invoke/MethodHandle" ∧ yX7_mix.cls ≠ "java/lang/invoke/VarHandle" ∧ (parseMethodDescriptor yX7_mix.desc).map (fun d => d.parameters.length) = some 2) := ⟨t_3 (i := 183) rfl rfl, t_1 (i := 1) rfl rfl, t_3 (i := 184) rfl rfl, by decide +kernel⟩
theorem mv_X7_tellAnew : Cond.instanceMethod yX7_tellAnew ∈ gU ∧ Cond.selects RX7 yX7_tellAnew yX7_tellAnew ∈ gU ∧ Cond.initialized RX7 ∈ gU ∧ Cond.code yX7_tellAnew cX7_tellAnew 1 (none) ∈ gU ∧ (yX7_tellAnew.cls = RX7 ∧ yX7_tellAnew.cls ≠ "java/lang/invoke/MethodHandle" ∧ yX7_tellAnew.cls ≠ "java/lang/invoke/VarHandle" ∧ (parseMethodDescriptor yX7_tellAnew.desc).map (fun d => d.parameters.length) = some 0) := ⟨t_2 (i := 16) rfl rfl, t_s (i := 0) rfl rfl, t_1 (i := 1) rfl rfl, t_2 (i := 17) rfl rfl, by decide +kernel⟩
theorem mv_X7_tellEven : Cond.instanceMethod yX7_tellEven ∈ gU ∧ Cond.selects RX7 yX7_tellEven yX7_tellEven ∈ gU ∧ Cond.initialized RX7 ∈ gU ∧ Cond.code yX7_tellEven cX7_tellEven 3 (some .int) ∈ gU ∧ (yX7_tellEven.cls = RX7 ∧ yX7_tellEven.cls ≠ "java/lang/invoke/MethodHandle" ∧ yX7_tellEven.cls ≠ "java/lang/invoke/VarHandle" ∧ (parseMethodDescriptor yX7_tellEven.desc).map (fun d => d.parameters.length) = some 1) := ⟨t_2 (i := 181) rfl rfl, t_s (i := 7) rfl rfl, t_1 (i := 1) rfl rfl, t_2 (i := 182) rfl rfl, by decide +kernel⟩
theorem mv_X7_tellChanges : Cond.instanceMethod yX7_tellChanges ∈ gU ∧ Cond.selects RX7 yX7_tellChanges yX7_tellChanges ∈ gU ∧ Cond.initialized RX7 ∈ gU ∧ Cond.code yX7_tellChanges cX7_tellChanges 3 (some .int) ∈ gU ∧ (yX7_tellChanges.cls = RX7 ∧ yX7_tellChanges.cls ≠ "java/lang/invoke/MethodHandle" ∧ yX7_tellChanges.cls ≠ "java/lang/invoke/VarHandle" ∧ (parseMethodDescriptor yX7_tellChanges.desc).map (fun d => d.parameters.length) = some 1) := ⟨t_2 (i := 185) rfl rfl, t_s (i := 8) rfl rfl, t_1 (i := 1) rfl rfl, t_2 (i := 186) rfl rfl, by decide +kernel⟩
theorem mv_X7_tellForgets : Cond.instanceMethod yX7_tellForgets ∈ gU ∧ Cond.selects RX7 yX7_tellForgets yX7_tellForgets ∈ gU ∧ Cond.initialized RX7 ∈ gU ∧ Cond.code yX7_tellForgets cX7_tellForgets 3 (some .int) ∈ gU ∧ (yX7_tellForgets.cls = RX7 ∧ yX7_tellForgets.cls ≠ "java/lang/invoke/MethodHandle" ∧ yX7_tellForgets.cls ≠ "java/lang/invoke/VarHandle" ∧ (parseMethodDescriptor yX7_tellForgets.desc).map (fun d => d.parameters.length) = some 1) := ⟨t_2 (i := 189) rfl rfl, t_s (i := 9) rfl rfl, t_1 (i := 1) rfl rfl, t_2 (i := 190) rfl rfl, by decide +kernel⟩
theorem mv_X7_rideWithEven : Cond.instanceMethod yX7_rideWithEven ∈ gU ∧ Cond.selects RX7 yX7_rideWithEven yX7_rideWithEven ∈ gU ∧ Cond.initialized RX7 ∈ gU ∧ Cond.code yX7_rideWithEven cX7_rideWithEven 2 (none) ∈ gU ∧ (yX7_rideWithEven.cls = RX7 ∧ yX7_rideWithEven.cls ≠ "java/lang/invoke/MethodHandle" ∧ yX7_rideWithEven.cls ≠ "java/lang/invoke/VarHandle" ∧ (parseMethodDescriptor yX7_rideWithEven.desc).map (fun d => d.parameters.length) = some 1) := ⟨t_3 (i := 30) rfl rfl, t_s (i := 10) rfl rfl, t_1 (i := 1) rfl rfl, t_3 (i := 31) rfl rfl, by decide +kernel⟩
theorem mv_X7_clearAlike : Cond.instanceMethod yX7_clearAlike ∈ gU ∧ Cond.selects RX7 yX7_clearAlike yX7_clearAlike ∈ gU ∧ Cond.initialized RX7 ∈ gU ∧ Cond.code yX7_clearAlike cX7_clearAlike 2 (none) ∈ gU ∧ (yX7_clearAlike.cls = RX7 ∧ yX7_clearAlike.cls ≠ "java/lang/invoke/MethodHandle" ∧ yX7_clearAlike.cls ≠ "java/lang/invoke/VarHandle" ∧ (parseMethodDescriptor yX7_clearAlike.desc).map (fun d => d.parameters.length) = some 0) := ⟨t_3 (i := 97) rfl rfl, t_s (i := 12) rfl rfl, t_1 (i := 1) rfl rfl, t_3 (i := 98) rfl rfl, by decide +kernel⟩
theorem mv_X7_countAlike : Cond.instanceMethod yX7_countAlike ∈ gU ∧ Cond.selects RX7 yX7_countAlike yX7_countAlike ∈ gU ∧ Cond.initialized RX7 ∈ gU ∧ Cond.code yX7_countAlike cX7_countAlike 4 (none) ∈ gU ∧ (yX7_countAlike.cls = RX7 ∧ yX7_countAlike.cls ≠ "java/lang/invoke/MethodHandle" ∧ yX7_countAlike.cls ≠ "java/lang/invoke/VarHandle" ∧ (parseMethodDescriptor yX7_countAlike.desc).map (fun d => d.parameters.length) = some 1) := ⟨t_3 (i := 102) rfl rfl, t_s (i := 13) rfl rfl, t_1 (i := 1) rfl rfl, t_3 (i := 103) rfl rfl, by decide +kernel⟩
theorem ms_X7_greatestOf : Cond.static yX7_greatestOf ∈ gU ∧ Cond.initialized yX7_greatestOf.cls ∈ gU ∧ Cond.code yX7_greatestOf cX7_greatestOf 6 (some .int) ∈ gU ∧ (yX7_greatestOf.cls ≠ "java/lang/invoke/MethodHandle" ∧ yX7_greatestOf.cls ≠ "java/lang/invoke/VarHandle" ∧ (parseMethodDescriptor yX7_greatestOf.desc).map (fun d => d.parameters.length) = some 1) := ⟨t_3 (i := 105) rfl rfl, t_1 (i := 1) rfl rfl, t_3 (i := 106) rfl rfl, by decide +kernel⟩
theorem mv_X7_chanceAbove : Cond.instanceMethod yX7_chanceAbove ∈ gU ∧ Cond.selects RX7 yX7_chanceAbove yX7_chanceAbove ∈ gU ∧ Cond.initialized RX7 ∈ gU ∧ Cond.code yX7_chanceAbove cX7_chanceAbove 9 (some .long) ∈ gU ∧ (yX7_chanceAbove.cls = RX7 ∧ yX7_chanceAbove.cls ≠ "java/lang/invoke/MethodHandle" ∧ yX7_chanceAbove.cls ≠ "java/lang/invoke/VarHandle" ∧ (parseMethodDescriptor yX7_chanceAbove.desc).map (fun d => d.parameters.length) = some 2) := ⟨t_3 (i := 115) rfl rfl, t_s (i := 14) rfl rfl, t_1 (i := 1) rfl rfl, t_3 (i := 116) rfl rfl, by decide +kernel⟩
theorem mv_X7_finding : Cond.instanceMethod yX7_finding ∈ gU ∧ Cond.selects RX7 yX7_finding yX7_finding ∈ gU ∧ Cond.initialized RX7 ∈ gU ∧ Cond.code yX7_finding cX7_finding 2 (some .int) ∈ gU ∧ (yX7_finding.cls = RX7 ∧ yX7_finding.cls ≠ "java/lang/invoke/MethodHandle" ∧ yX7_finding.cls ≠ "java/lang/invoke/VarHandle" ∧ (parseMethodDescriptor yX7_finding.desc).map (fun d => d.parameters.length) = some 1) := ⟨t_3 (i := 76) rfl rfl, t_s (i := 11) rfl rfl, t_1 (i := 1) rfl rfl, t_3 (i := 77) rfl rfl, by decide +kernel⟩
theorem mv_X7_refusalOfItem : Cond.instanceMethod yX7_refusalOfItem ∈ gU ∧ Cond.selects RX7 yX7_refusalOfItem yX7_refusalOfItem ∈ gU ∧ Cond.initialized RX7 ∈ gU ∧ Cond.code yX7_refusalOfItem cX7_refusalOfItem 4 (some .int) ∈ gU ∧ (yX7_refusalOfItem.cls = RX7 ∧ yX7_refusalOfItem.cls ≠ "java/lang/invoke/MethodHandle" ∧ yX7_refusalOfItem.cls ≠ "java/lang/invoke/VarHandle" ∧ (parseMethodDescriptor yX7_refusalOfItem.desc).map (fun d => d.parameters.length) = some 3) := ⟨t_3 (i := 147) rfl rfl, t_s (i := 15) rfl rfl, t_1 (i := 1) rfl rfl, t_3 (i := 148) rfl rfl, by decide +kernel⟩
theorem mi_X8_init : Cond.instanceMethod yX8_init ∈ gU ∧ Cond.initialized RX8 ∈ gU ∧ Cond.code yX8_init cX8_init 2 (none) ∈ gU := ⟨t_3 (i := 207) rfl rfl, t_1 (i := 12) rfl rfl, t_3 (i := 208) rfl rfl⟩
theorem ms_X8_in : Cond.static yX8_in ∈ gU ∧ Cond.initialized yX8_in.cls ∈ gU ∧ Cond.code yX8_in cX8_in 6 (some .boolean) ∈ gU ∧ (yX8_in.cls ≠ "java/lang/invoke/MethodHandle" ∧ yX8_in.cls ≠ "java/lang/invoke/VarHandle" ∧ (parseMethodDescriptor yX8_in.desc).map (fun d => d.parameters.length) = some 3) := ⟨t_4 (i := 70) rfl rfl, t_1 (i := 12) rfl rfl, t_4 (i := 71) rfl rfl, by decide +kernel⟩
theorem ms_X8_no : Cond.static yX8_no ∈ gU ∧ Cond.initialized yX8_no.cls ∈ gU ∧ Cond.code yX8_no cX8_no 1 (some .long) ∈ gU ∧ (yX8_no.cls ≠ "java/lang/invoke/MethodHandle" ∧ yX8_no.cls ≠ "java/lang/invoke/VarHandle" ∧ (parseMethodDescriptor yX8_no.desc).map (fun d => d.parameters.length) = some 1) := ⟨t_5 (i := 120) rfl rfl, t_1 (i := 12) rfl rfl, t_5 (i := 121) rfl rfl, by decide +kernel⟩
theorem ms_X8_isTwo : Cond.static yX8_isTwo ∈ gU ∧ Cond.initialized yX8_isTwo.cls ∈ gU ∧ Cond.code yX8_isTwo cX8_isTwo 1 (some .boolean) ∈ gU ∧ (yX8_isTwo.cls ≠ "java/lang/invoke/MethodHandle" ∧ yX8_isTwo.cls ≠ "java/lang/invoke/VarHandle" ∧ (parseMethodDescriptor yX8_isTwo.desc).map (fun d => d.parameters.length) = some 1) := ⟨t_4 (i := 106) rfl rfl, t_1 (i := 12) rfl rfl, t_4 (i := 107) rfl rfl, by decide +kernel⟩
theorem ms_X8_isIn : Cond.static yX8_isIn ∈ gU ∧ Cond.initialized yX8_isIn.cls ∈ gU ∧ Cond.code yX8_isIn cX8_isIn 2 (some .boolean) ∈ gU ∧ (yX8_isIn.cls ≠ "java/lang/invoke/MethodHandle" ∧ yX8_isIn.cls ≠ "java/lang/invoke/VarHandle" ∧ (parseMethodDescriptor yX8_isIn.desc).map (fun d => d.parameters.length) = some 2) := ⟨t_4 (i := 184) rfl rfl, t_1 (i := 12) rfl rfl, t_4 (i := 185) rfl rfl, by decide +kernel⟩
theorem ms_X8_ones : Cond.static yX8_ones ∈ gU ∧ Cond.initialized yX8_ones.cls ∈ gU ∧ Cond.code yX8_ones cX8_ones 3 (some .int) ∈ gU ∧ (yX8_ones.cls ≠ "java/lang/invoke/MethodHandle" ∧ yX8_ones.cls ≠ "java/lang/invoke/VarHandle" ∧ (parseMethodDescriptor yX8_ones.desc).map (fun d => d.parameters.length) = some 1) := ⟨t_5 (i := 44) rfl rfl, t_1 (i := 12) rfl rfl, t_5 (i := 45) rfl rfl, by decide +kernel⟩
theorem ms_X8_lesser : Cond.static yX8_lesser ∈ gU ∧ Cond.initialized yX8_lesser.cls ∈ gU ∧ Cond.code yX8_lesser cX8_lesser 2 (some .int) ∈ gU ∧ (yX8_lesser.cls ≠ "java/lang/invoke/MethodHandle" ∧ yX8_lesser.cls ≠ "java/lang/invoke/VarHandle" ∧ (parseMethodDescriptor yX8_lesser.desc).map (fun d => d.parameters.length) = some 2) := ⟨t_5 (i := 141) rfl rfl, t_1 (i := 12) rfl rfl, t_5 (i := 142) rfl rfl, by decide +kernel⟩
theorem ms_X8_greater : Cond.static yX8_greater ∈ gU ∧ Cond.initialized yX8_greater.cls ∈ gU ∧ Cond.code yX8_greater cX8_greater 2 (some .int) ∈ gU ∧ (yX8_greater.cls ≠ "java/lang/invoke/MethodHandle" ∧ yX8_greater.cls ≠ "java/lang/invoke/VarHandle" ∧ (parseMethodDescriptor yX8_greater.desc).map (fun d => d.parameters.length) = some 2) := ⟨t_5 (i := 55) rfl rfl, t_1 (i := 12) rfl rfl, t_5 (i := 56) rfl rfl, by decide +kernel⟩
theorem ms_X8_part : Cond.static yX8_part ∈ gU ∧ Cond.initialized yX8_part.cls ∈ gU ∧ Cond.code yX8_part cX8_part 11 (some .long) ∈ gU ∧ (yX8_part.cls ≠ "java/lang/invoke/MethodHandle" ∧ yX8_part.cls ≠ "java/lang/invoke/VarHandle" ∧ (parseMethodDescriptor yX8_part.desc).map (fun d => d.parameters.length) = some 3) := ⟨t_5 (i := 117) rfl rfl, t_1 (i := 12) rfl rfl, t_5 (i := 118) rfl rfl, by decide +kernel⟩
theorem mv_X8_finds : Cond.instanceMethod yX8_finds ∈ gU ∧ Cond.selects RX8 yX8_finds yX8_finds ∈ gU ∧ Cond.initialized RX8 ∈ gU ∧ Cond.code yX8_finds cX8_finds 2 (some .int) ∈ gU ∧ (yX8_finds.cls = RX8 ∧ yX8_finds.cls ≠ "java/lang/invoke/MethodHandle" ∧ yX8_finds.cls ≠ "java/lang/invoke/VarHandle" ∧ (parseMethodDescriptor yX8_finds.desc).map (fun d => d.parameters.length) = some 1) := ⟨t_4 (i := 75) rfl rfl, t_s (i := 16) rfl rfl, t_1 (i := 12) rfl rfl, t_4 (i := 76) rfl rfl, by decide +kernel⟩
theorem ms_X8_isSheet : Cond.static yX8_isSheet ∈ gU ∧ Cond.initialized yX8_isSheet.cls ∈ gU ∧ Cond.code yX8_isSheet cX8_isSheet 1 (some .boolean) ∈ gU ∧ (yX8_isSheet.cls ≠ "java/lang/invoke/MethodHandle" ∧ yX8_isSheet.cls ≠ "java/lang/invoke/VarHandle" ∧ (parseMethodDescriptor yX8_isSheet.desc).map (fun d => d.parameters.length) = some 1) := ⟨t_4 (i := 66) rfl rfl, t_1 (i := 12) rfl rfl, t_4 (i := 67) rfl rfl, by decide +kernel⟩
theorem mv_X8_sheet : Cond.instanceMethod yX8_sheet ∈ gU ∧ Cond.selects RX8 yX8_sheet yX8_sheet ∈ gU ∧ Cond.initialized RX8 ∈ gU ∧ Cond.code yX8_sheet cX8_sheet 5 (some .int) ∈ gU ∧ (yX8_sheet.cls = RX8 ∧ yX8_sheet.cls ≠ "java/lang/invoke/MethodHandle" ∧ yX8_sheet.cls ≠ "java/lang/invoke/VarHandle" ∧ (parseMethodDescriptor yX8_sheet.desc).map (fun d => d.parameters.length) = some 3) := ⟨t_4 (i := 62) rfl rfl, t_4 (i := 63) rfl rfl, t_1 (i := 12) rfl rfl, t_4 (i := 64) rfl rfl, by decide +kernel⟩
theorem mv_X8_lose : Cond.instanceMethod yX8_lose ∈ gU ∧ Cond.selects RX8 yX8_lose yX8_lose ∈ gU ∧ Cond.initialized RX8 ∈ gU ∧ Cond.code yX8_lose cX8_lose 2 (some .int) ∈ gU ∧ (yX8_lose.cls = RX8 ∧ yX8_lose.cls ≠ "java/lang/invoke/MethodHandle" ∧ yX8_lose.cls ≠ "java/lang/invoke/VarHandle" ∧ (parseMethodDescriptor yX8_lose.desc).map (fun d => d.parameters.length) = some 1) := ⟨t_4 (i := 78) rfl rfl, t_4 (i := 79) rfl rfl, t_1 (i := 12) rfl rfl, t_4 (i := 80) rfl rfl, by decide +kernel⟩
theorem mv_X8_lacks : Cond.instanceMethod yX8_lacks ∈ gU ∧ Cond.selects RX8 yX8_lacks yX8_lacks ∈ gU ∧ Cond.initialized RX8 ∈ gU ∧ Cond.code yX8_lacks cX8_lacks 4 (some .int) ∈ gU ∧ (yX8_lacks.cls = RX8 ∧ yX8_lacks.cls ≠ "java/lang/invoke/MethodHandle" ∧ yX8_lacks.cls ≠ "java/lang/invoke/VarHandle" ∧ (parseMethodDescriptor yX8_lacks.desc).map (fun d => d.parameters.length) = some 3) := ⟨t_4 (i := 87) rfl rfl, t_s (i := 17) rfl rfl, t_1 (i := 12) rfl rfl, t_4 (i := 88) rfl rfl, by decide +kernel⟩
theorem ms_X8_cut : Cond.static yX8_cut ∈ gU ∧ Cond.initialized yX8_cut.cls ∈ gU ∧ Cond.code yX8_cut cX8_cut 2 (some .int) ∈ gU ∧ (yX8_cut.cls ≠ "java/lang/invoke/MethodHandle" ∧ yX8_cut.cls ≠ "java/lang/invoke/VarHandle" ∧ (parseMethodDescriptor yX8_cut.desc).map (fun d => d.parameters.length) = some 2) := ⟨t_4 (i := 90) rfl rfl, t_1 (i := 12) rfl rfl, t_4 (i := 91) rfl rfl, by decide +kernel⟩
theorem mv_X8_lay : Cond.instanceMethod yX8_lay ∈ gU ∧ Cond.selects RX8 yX8_lay yX8_lay ∈ gU ∧ Cond.initialized RX8 ∈ gU ∧ Cond.code yX8_lay cX8_lay 6 (some .int) ∈ gU ∧ (yX8_lay.cls = RX8 ∧ yX8_lay.cls ≠ "java/lang/invoke/MethodHandle" ∧ yX8_lay.cls ≠ "java/lang/invoke/VarHandle" ∧ (parseMethodDescriptor yX8_lay.desc).map (fun d => d.parameters.length) = some 4) := ⟨t_4 (i := 82) rfl rfl, t_4 (i := 83) rfl rfl, t_1 (i := 12) rfl rfl, t_4 (i := 84) rfl rfl, by decide +kernel⟩
theorem mv_X8_get : Cond.instanceMethod yX8_get ∈ gU ∧ Cond.selects RX8 yX8_get yX8_get ∈ gU ∧ Cond.initialized RX8 ∈ gU ∧ Cond.code yX8_get cX8_get 4 (some .int) ∈ gU ∧ (yX8_get.cls = RX8 ∧ yX8_get.cls ≠ "java/lang/invoke/MethodHandle" ∧ yX8_get.cls ≠ "java/lang/invoke/VarHandle" ∧ (parseMethodDescriptor yX8_get.desc).map (fun d => d.parameters.length) = some 3) := ⟨t_4 (i := 93) rfl rfl, t_4 (i := 94) rfl rfl, t_1 (i := 12) rfl rfl, t_4 (i := 95) rfl rfl, by decide +kernel⟩
theorem mv_X8_copy : Cond.instanceMethod yX8_copy ∈ gU ∧ Cond.selects RX8 yX8_copy yX8_copy ∈ gU ∧ Cond.initialized RX8 ∈ gU ∧ Cond.code yX8_copy cX8_copy 7 (some .int) ∈ gU ∧ (yX8_copy.cls = RX8 ∧ yX8_copy.cls ≠ "java/lang/invoke/MethodHandle" ∧ yX8_copy.cls ≠ "java/lang/invoke/VarHandle" ∧ (parseMethodDescriptor yX8_copy.desc).map (fun d => d.parameters.length) = some 5) := ⟨t_4 (i := 98) rfl rfl, t_4 (i := 99) rfl rfl, t_1 (i := 12) rfl rfl, t_4 (i := 100) rfl rfl, by decide +kernel⟩
theorem mv_X8_type : Cond.instanceMethod yX8_type ∈ gU ∧ Cond.selects RX8 yX8_type yX8_type ∈ gU ∧ Cond.initialized RX8 ∈ gU ∧ Cond.code yX8_type cX8_type 3 (some .int) ∈ gU ∧ (yX8_type.cls = RX8 ∧ yX8_type.cls ≠ "java/lang/invoke/MethodHandle" ∧ yX8_type.cls ≠ "java/lang/invoke/VarHandle" ∧ (parseMethodDescriptor yX8_type.desc).map (fun d => d.parameters.length) = some 2) := ⟨t_4 (i := 102) rfl rfl, t_4 (i := 103) rfl rfl, t_1 (i := 12) rfl rfl, t_4 (i := 104) rfl rfl, by decide +kernel⟩
theorem mv_X8_wipe : Cond.instanceMethod yX8_wipe ∈ gU ∧ Cond.selects RX8 yX8_wipe yX8_wipe ∈ gU ∧ Cond.initialized RX8 ∈ gU ∧ Cond.code yX8_wipe cX8_wipe 3 (some .int) ∈ gU ∧ (yX8_wipe.cls = RX8 ∧ yX8_wipe.cls ≠ "java/lang/invoke/MethodHandle" ∧ yX8_wipe.cls ≠ "java/lang/invoke/VarHandle" ∧ (parseMethodDescriptor yX8_wipe.desc).map (fun d => d.parameters.length) = some 1) := ⟨t_4 (i := 110) rfl rfl, t_4 (i := 111) rfl rfl, t_1 (i := 12) rfl rfl, t_4 (i := 112) rfl rfl, by decide +kernel⟩
theorem mv_X8_undo : Cond.instanceMethod yX8_undo ∈ gU ∧ Cond.selects RX8 yX8_undo yX8_undo ∈ gU ∧ Cond.initialized RX8 ∈ gU ∧ Cond.code yX8_undo cX8_undo 2 (some .int) ∈ gU ∧ (yX8_undo.cls = RX8 ∧ yX8_undo.cls ≠ "java/lang/invoke/MethodHandle" ∧ yX8_undo.cls ≠ "java/lang/invoke/VarHandle" ∧ (parseMethodDescriptor yX8_undo.desc).map (fun d => d.parameters.length) = some 1) := ⟨t_4 (i := 114) rfl rfl, t_4 (i := 115) rfl rfl, t_1 (i := 12) rfl rfl, t_4 (i := 116) rfl rfl, by decide +kernel⟩
theorem ms_X8_letterOf : Cond.static yX8_letterOf ∈ gU ∧ Cond.initialized yX8_letterOf.cls ∈ gU ∧ Cond.code yX8_letterOf cX8_letterOf 1 (some .int) ∈ gU ∧ (yX8_letterOf.cls ≠ "java/lang/invoke/MethodHandle" ∧ yX8_letterOf.cls ≠ "java/lang/invoke/VarHandle" ∧ (parseMethodDescriptor yX8_letterOf.desc).map (fun d => d.parameters.length) = some 1) := ⟨t_4 (i := 129) rfl rfl, t_1 (i := 12) rfl rfl, t_4 (i := 130) rfl rfl, by decide +kernel⟩
theorem ms_X8_riderOf : Cond.static yX8_riderOf ∈ gU ∧ Cond.initialized yX8_riderOf.cls ∈ gU ∧ Cond.code yX8_riderOf cX8_riderOf 2 (some .int) ∈ gU ∧ (yX8_riderOf.cls ≠ "java/lang/invoke/MethodHandle" ∧ yX8_riderOf.cls ≠ "java/lang/invoke/VarHandle" ∧ (parseMethodDescriptor yX8_riderOf.desc).map (fun d => d.parameters.length) = some 2) := ⟨t_4 (i := 126) rfl rfl, t_1 (i := 12) rfl rfl, t_4 (i := 127) rfl rfl, by decide +kernel⟩
theorem mv_X8_readsRiders : Cond.instanceMethod yX8_readsRiders ∈ gU ∧ Cond.selects RX8 yX8_readsRiders yX8_readsRiders ∈ gU ∧ Cond.initialized RX8 ∈ gU ∧ Cond.code yX8_readsRiders cX8_readsRiders 5 (some .int) ∈ gU ∧ (yX8_readsRiders.cls = RX8 ∧ yX8_readsRiders.cls ≠ "java/lang/invoke/MethodHandle" ∧ yX8_readsRiders.cls ≠ "java/lang/invoke/VarHandle" ∧ (parseMethodDescriptor yX8_readsRiders.desc).map (fun d => d.parameters.length) = some 0) := ⟨t_4 (i := 123) rfl rfl, t_s (i := 18) rfl rfl, t_1 (i := 12) rfl rfl, t_4 (i := 124) rfl rfl, by decide +kernel⟩
theorem mv_X8_readsBag : Cond.instanceMethod yX8_readsBag ∈ gU ∧ Cond.selects RX8 yX8_readsBag yX8_readsBag ∈ gU ∧ Cond.initialized RX8 ∈ gU ∧ Cond.code yX8_readsBag cX8_readsBag 4 (some .int) ∈ gU ∧ (yX8_readsBag.cls = RX8 ∧ yX8_readsBag.cls ≠ "java/lang/invoke/MethodHandle" ∧ yX8_readsBag.cls ≠ "java/lang/invoke/VarHandle" ∧ (parseMethodDescriptor yX8_readsBag.desc).map (fun d => d.parameters.length) = some 0) := ⟨t_4 (i := 137) rfl rfl, t_s (i := 19) rfl rfl, t_1 (i := 12) rfl rfl, t_4 (i := 138) rfl rfl, by decide +kernel⟩
theorem mv_X8_fault : Cond.instanceMethod yX8_fault ∈ gU ∧ Cond.selects RX8 yX8_fault yX8_fault ∈ gU ∧ Cond.initialized RX8 ∈ gU ∧ Cond.code yX8_fault cX8_fault 2 (some .int) ∈ gU ∧ (yX8_fault.cls = RX8 ∧ yX8_fault.cls ≠ "java/lang/invoke/MethodHandle" ∧ yX8_fault.cls ≠ "java/lang/invoke/VarHandle" ∧ (parseMethodDescriptor yX8_fault.desc).map (fun d => d.parameters.length) = some 1) := ⟨t_4 (i := 118) rfl rfl, t_4 (i := 119) rfl rfl, t_1 (i := 12) rfl rfl, t_4 (i := 120) rfl rfl, by decide +kernel⟩
theorem mv_X8_isRider : Cond.instanceMethod yX8_isRider ∈ gU ∧ Cond.selects RX8 yX8_isRider yX8_isRider ∈ gU ∧ Cond.initialized RX8 ∈ gU ∧ Cond.code yX8_isRider cX8_isRider 2 (some .boolean) ∈ gU ∧ (yX8_isRider.cls = RX8 ∧ yX8_isRider.cls ≠ "java/lang/invoke/MethodHandle" ∧ yX8_isRider.cls ≠ "java/lang/invoke/VarHandle" ∧ (parseMethodDescriptor yX8_isRider.desc).map (fun d => d.parameters.length) = some 1) := ⟨t_4 (i := 147) rfl rfl, t_s (i := 20) rfl rfl, t_1 (i := 12) rfl rfl, t_4 (i := 148) rfl rfl, by decide +kernel⟩
theorem ms_X8_isDay : Cond.static yX8_isDay ∈ gU ∧ Cond.initialized yX8_isDay.cls ∈ gU ∧ Cond.code yX8_isDay cX8_isDay 1 (some .boolean) ∈ gU ∧ (yX8_isDay.cls ≠ "java/lang/invoke/MethodHandle" ∧ yX8_isDay.cls ≠ "java/lang/invoke/VarHandle" ∧ (parseMethodDescriptor yX8_isDay.desc).map (fun d => d.parameters.length) = some 1) := ⟨t_4 (i := 215) rfl rfl, t_1 (i := 12) rfl rfl, t_4 (i := 216) rfl rfl, by decide +kernel⟩
theorem mv_X8_rider : Cond.instanceMethod yX8_rider ∈ gU ∧ Cond.selects RX8 yX8_rider yX8_rider ∈ gU ∧ Cond.initialized RX8 ∈ gU ∧ Cond.code yX8_rider cX8_rider 3 (some .int) ∈ gU ∧ (yX8_rider.cls = RX8 ∧ yX8_rider.cls ≠ "java/lang/invoke/MethodHandle" ∧ yX8_rider.cls ≠ "java/lang/invoke/VarHandle" ∧ (parseMethodDescriptor yX8_rider.desc).map (fun d => d.parameters.length) = some 2) := ⟨t_4 (i := 142) rfl rfl, t_4 (i := 143) rfl rfl, t_1 (i := 12) rfl rfl, t_4 (i := 144) rfl rfl, by decide +kernel⟩
theorem mv_X8_worth : Cond.instanceMethod yX8_worth ∈ gU ∧ Cond.selects RX8 yX8_worth yX8_worth ∈ gU ∧ Cond.initialized RX8 ∈ gU ∧ Cond.code yX8_worth cX8_worth 4 (some .int) ∈ gU ∧ (yX8_worth.cls = RX8 ∧ yX8_worth.cls ≠ "java/lang/invoke/MethodHandle" ∧ yX8_worth.cls ≠ "java/lang/invoke/VarHandle" ∧ (parseMethodDescriptor yX8_worth.desc).map (fun d => d.parameters.length) = some 2) := ⟨t_4 (i := 150) rfl rfl, t_4 (i := 151) rfl rfl, t_1 (i := 12) rfl rfl, t_4 (i := 152) rfl rfl, by decide +kernel⟩
theorem mv_X8_set : Cond.instanceMethod yX8_set ∈ gU ∧ Cond.selects RX8 yX8_set yX8_set ∈ gU ∧ Cond.initialized RX8 ∈ gU ∧ Cond.code yX8_set cX8_set 5 (some .int) ∈ gU ∧ (yX8_set.cls = RX8 ∧ yX8_set.cls ≠ "java/lang/invoke/MethodHandle" ∧ yX8_set.cls ≠ "java/lang/invoke/VarHandle" ∧ (parseMethodDescriptor yX8_set.desc).map (fun d => d.parameters.length) = some 2) := ⟨t_4 (i := 156) rfl rfl, t_4 (i := 157) rfl rfl, t_1 (i := 12) rfl rfl, t_4 (i := 158) rfl rfl, by decide +kernel⟩
theorem mv_X8_puts : Cond.instanceMethod yX8_puts ∈ gU ∧ Cond.selects RX8 yX8_puts yX8_puts ∈ gU ∧ Cond.initialized RX8 ∈ gU ∧ Cond.code yX8_puts cX8_puts 2 (none) ∈ gU ∧ (yX8_puts.cls = RX8 ∧ yX8_puts.cls ≠ "java/lang/invoke/MethodHandle" ∧ yX8_puts.cls ≠ "java/lang/invoke/VarHandle" ∧ (parseMethodDescriptor yX8_puts.desc).map (fun d => d.parameters.length) = some 1) := ⟨t_4 (i := 177) rfl rfl, t_s (i := 24) rfl rfl, t_1 (i := 12) rfl rfl, t_4 (i := 178) rfl rfl, by decide +kernel⟩
theorem mv_X8_find : Cond.instanceMethod yX8_find ∈ gU ∧ Cond.selects RX8 yX8_find yX8_find ∈ gU ∧ Cond.initialized RX8 ∈ gU ∧ Cond.code yX8_find cX8_find 3 (some .int) ∈ gU ∧ (yX8_find.cls = RX8 ∧ yX8_find.cls ≠ "java/lang/invoke/MethodHandle" ∧ yX8_find.cls ≠ "java/lang/invoke/VarHandle" ∧ (parseMethodDescriptor yX8_find.desc).map (fun d => d.parameters.length) = some 1) := ⟨t_4 (i := 196) rfl rfl, t_s (i := 28) rfl rfl, t_1 (i := 12) rfl rfl, t_4 (i := 197) rfl rfl, by decide +kernel⟩
theorem mv_X8_takes : Cond.instanceMethod yX8_takes ∈ gU ∧ Cond.selects RX8 yX8_takes yX8_takes ∈ gU ∧ Cond.initialized RX8 ∈ gU ∧ Cond.code yX8_takes cX8_takes 3 (none) ∈ gU ∧ (yX8_takes.cls = RX8 ∧ yX8_takes.cls ≠ "java/lang/invoke/MethodHandle" ∧ yX8_takes.cls ≠ "java/lang/invoke/VarHandle" ∧ (parseMethodDescriptor yX8_takes.desc).map (fun d => d.parameters.length) = some 1) := ⟨t_4 (i := 200) rfl rfl, t_s (i := 29) rfl rfl, t_1 (i := 12) rfl rfl, t_4 (i := 201) rfl rfl, by decide +kernel⟩
theorem mv_X8_may : Cond.instanceMethod yX8_may ∈ gU ∧ Cond.selects RX8 yX8_may yX8_may ∈ gU ∧ Cond.initialized RX8 ∈ gU ∧ Cond.code yX8_may cX8_may 3 (some .boolean) ∈ gU ∧ (yX8_may.cls = RX8 ∧ yX8_may.cls ≠ "java/lang/invoke/MethodHandle" ∧ yX8_may.cls ≠ "java/lang/invoke/VarHandle" ∧ (parseMethodDescriptor yX8_may.desc).map (fun d => d.parameters.length) = some 1) := ⟨t_4 (i := 188) rfl rfl, t_s (i := 26) rfl rfl, t_1 (i := 12) rfl rfl, t_4 (i := 189) rfl rfl, by decide +kernel⟩
theorem mv_X8_other : Cond.instanceMethod yX8_other ∈ gU ∧ Cond.selects RX8 yX8_other yX8_other ∈ gU ∧ Cond.initialized RX8 ∈ gU ∧ Cond.code yX8_other cX8_other 3 (some .int) ∈ gU ∧ (yX8_other.cls = RX8 ∧ yX8_other.cls ≠ "java/lang/invoke/MethodHandle" ∧ yX8_other.cls ≠ "java/lang/invoke/VarHandle" ∧ (parseMethodDescriptor yX8_other.desc).map (fun d => d.parameters.length) = some 1) := ⟨t_4 (i := 208) rfl rfl, t_s (i := 31) rfl rfl, t_1 (i := 12) rfl rfl, t_4 (i := 209) rfl rfl, by decide +kernel⟩
theorem mv_X8_gives : Cond.instanceMethod yX8_gives ∈ gU ∧ Cond.selects RX8 yX8_gives yX8_gives ∈ gU ∧ Cond.initialized RX8 ∈ gU ∧ Cond.code yX8_gives cX8_gives 3 (none) ∈ gU ∧ (yX8_gives.cls = RX8 ∧ yX8_gives.cls ≠ "java/lang/invoke/MethodHandle" ∧ yX8_gives.cls ≠ "java/lang/invoke/VarHandle" ∧ (parseMethodDescriptor yX8_gives.desc).map (fun d => d.parameters.length) = some 2) := ⟨t_4 (i := 204) rfl rfl, t_s (i := 30) rfl rfl, t_1 (i := 12) rfl rfl, t_4 (i := 205) rfl rfl, by decide +kernel⟩
theorem mv_X8_changesOne : Cond.instanceMethod yX8_changesOne ∈ gU ∧ Cond.selects RX8 yX8_changesOne yX8_changesOne ∈ gU ∧ Cond.initialized RX8 ∈ gU ∧ Cond.code yX8_changesOne cX8_changesOne 6 (some .boolean) ∈ gU ∧ (yX8_changesOne.cls = RX8 ∧ yX8_changesOne.cls ≠ "java/lang/invoke/MethodHandle" ∧ yX8_changesOne.cls ≠ "java/lang/invoke/VarHandle" ∧ (parseMethodDescriptor yX8_changesOne.desc).map (fun d => d.parameters.length) = some 1) := ⟨t_4 (i := 192) rfl rfl, t_s (i := 27) rfl rfl, t_1 (i := 12) rfl rfl, t_4 (i := 193) rfl rfl, by decide +kernel⟩
theorem mv_X8_stops : Cond.instanceMethod yX8_stops ∈ gU ∧ Cond.selects RX8 yX8_stops yX8_stops ∈ gU ∧ Cond.initialized RX8 ∈ gU ∧ Cond.code yX8_stops cX8_stops 4 (none) ∈ gU ∧ (yX8_stops.cls = RX8 ∧ yX8_stops.cls ≠ "java/lang/invoke/MethodHandle" ∧ yX8_stops.cls ≠ "java/lang/invoke/VarHandle" ∧ (parseMethodDescriptor yX8_stops.desc).map (fun d => d.parameters.length) = some 2) := ⟨t_4 (i := 181) rfl rfl, t_s (i := 25) rfl rfl, t_1 (i := 12) rfl rfl, t_4 (i := 182) rfl rfl, by decide +kernel⟩
theorem mv_X8_keeps : Cond.instanceMethod yX8_keeps ∈ gU ∧ Cond.selects RX8 yX8_keeps yX8_keeps ∈ gU ∧ Cond.initialized RX8 ∈ gU ∧ Cond.code yX8_keeps cX8_keeps 3 (none) ∈ gU ∧ (yX8_keeps.cls = RX8 ∧ yX8_keeps.cls ≠ "java/lang/invoke/MethodHandle" ∧ yX8_keeps.cls ≠ "java/lang/invoke/VarHandle" ∧ (parseMethodDescriptor yX8_keeps.desc).map (fun d => d.parameters.length) = some 1) := ⟨t_4 (i := 212) rfl rfl, t_s (i := 32) rfl rfl, t_1 (i := 12) rfl rfl, t_4 (i := 213) rfl rfl, by decide +kernel⟩
theorem mv_X8_begins : Cond.instanceMethod yX8_begins ∈ gU ∧ Cond.selects RX8 yX8_begins yX8_begins ∈ gU ∧ Cond.initialized RX8 ∈ gU ∧ Cond.code yX8_begins cX8_begins 2 (none) ∈ gU ∧ (yX8_begins.cls = RX8 ∧ yX8_begins.cls ≠ "java/lang/invoke/MethodHandle" ∧ yX8_begins.cls ≠ "java/lang/invoke/VarHandle" ∧ (parseMethodDescriptor yX8_begins.desc).map (fun d => d.parameters.length) = some 0) := ⟨t_4 (i := 173) rfl rfl, t_s (i := 23) rfl rfl, t_1 (i := 12) rfl rfl, t_4 (i := 174) rfl rfl, by decide +kernel⟩
theorem mv_X8_lives : Cond.instanceMethod yX8_lives ∈ gU ∧ Cond.selects RX8 yX8_lives yX8_lives ∈ gU ∧ Cond.initialized RX8 ∈ gU ∧ Cond.code yX8_lives cX8_lives 4 (none) ∈ gU ∧ (yX8_lives.cls = RX8 ∧ yX8_lives.cls ≠ "java/lang/invoke/MethodHandle" ∧ yX8_lives.cls ≠ "java/lang/invoke/VarHandle" ∧ (parseMethodDescriptor yX8_lives.desc).map (fun d => d.parameters.length) = some 0) := ⟨t_4 (i := 169) rfl rfl, t_s (i := 22) rfl rfl, t_1 (i := 12) rfl rfl, t_4 (i := 170) rfl rfl, by decide +kernel⟩
theorem mv_X8_reads : Cond.instanceMethod yX8_reads ∈ gU ∧ Cond.selects RX8 yX8_reads yX8_reads ∈ gU ∧ Cond.initialized RX8 ∈ gU ∧ Cond.code yX8_reads cX8_reads 1 (none) ∈ gU ∧ (yX8_reads.cls = RX8 ∧ yX8_reads.cls ≠ "java/lang/invoke/MethodHandle" ∧ yX8_reads.cls ≠ "java/lang/invoke/VarHandle" ∧ (parseMethodDescriptor yX8_reads.desc).map (fun d => d.parameters.length) = some 0) := ⟨t_4 (i := 165) rfl rfl, t_s (i := 21) rfl rfl, t_1 (i := 12) rfl rfl, t_4 (i := 166) rfl rfl, by decide +kernel⟩
theorem mv_X8_has : Cond.instanceMethod yX8_has ∈ gU ∧ Cond.selects RX8 yX8_has yX8_has ∈ gU ∧ Cond.initialized RX8 ∈ gU ∧ Cond.code yX8_has cX8_has 3 (some .int) ∈ gU ∧ (yX8_has.cls = RX8 ∧ yX8_has.cls ≠ "java/lang/invoke/MethodHandle" ∧ yX8_has.cls ≠ "java/lang/invoke/VarHandle" ∧ (parseMethodDescriptor yX8_has.desc).map (fun d => d.parameters.length) = some 2) := ⟨t_4 (i := 160) rfl rfl, t_4 (i := 161) rfl rfl, t_1 (i := 12) rfl rfl, t_4 (i := 162) rfl rfl, by decide +kernel⟩
theorem mv_X8_torn : Cond.instanceMethod yX8_torn ∈ gU ∧ Cond.selects RX8 yX8_torn yX8_torn ∈ gU ∧ Cond.initialized RX8 ∈ gU ∧ Cond.code yX8_torn cX8_torn 3 (some .int) ∈ gU ∧ (yX8_torn.cls = RX8 ∧ yX8_torn.cls ≠ "java/lang/invoke/MethodHandle" ∧ yX8_torn.cls ≠ "java/lang/invoke/VarHandle" ∧ (parseMethodDescriptor yX8_torn.desc).map (fun d => d.parameters.length) = some 2) := ⟨t_4 (i := 218) rfl rfl, t_4 (i := 219) rfl rfl, t_1 (i := 12) rfl rfl, t_4 (i := 220) rfl rfl, by decide +kernel⟩
theorem mv_X8_bagOf : Cond.instanceMethod yX8_bagOf ∈ gU ∧ Cond.selects RX8 yX8_bagOf yX8_bagOf ∈ gU ∧ Cond.initialized RX8 ∈ gU ∧ Cond.code yX8_bagOf cX8_bagOf 3 (some .int) ∈ gU ∧ (yX8_bagOf.cls = RX8 ∧ yX8_bagOf.cls ≠ "java/lang/invoke/MethodHandle" ∧ yX8_bagOf.cls ≠ "java/lang/invoke/VarHandle" ∧ (parseMethodDescriptor yX8_bagOf.desc).map (fun d => d.parameters.length) = some 2) := ⟨t_4 (i := 229) rfl rfl, t_s (i := 33) rfl rfl, t_1 (i := 12) rfl rfl, t_4 (i := 230) rfl rfl, by decide +kernel⟩
theorem mv_X8_bag : Cond.instanceMethod yX8_bag ∈ gU ∧ Cond.selects RX8 yX8_bag yX8_bag ∈ gU ∧ Cond.initialized RX8 ∈ gU ∧ Cond.code yX8_bag cX8_bag 3 (some .int) ∈ gU ∧ (yX8_bag.cls = RX8 ∧ yX8_bag.cls ≠ "java/lang/invoke/MethodHandle" ∧ yX8_bag.cls ≠ "java/lang/invoke/VarHandle" ∧ (parseMethodDescriptor yX8_bag.desc).map (fun d => d.parameters.length) = some 2) := ⟨t_4 (i := 222) rfl rfl, t_4 (i := 223) rfl rfl, t_1 (i := 12) rfl rfl, t_4 (i := 224) rfl rfl, by decide +kernel⟩
theorem mv_X8_isServed : Cond.instanceMethod yX8_isServed ∈ gU ∧ Cond.selects RX8 yX8_isServed yX8_isServed ∈ gU ∧ Cond.initialized RX8 ∈ gU ∧ Cond.code yX8_isServed cX8_isServed 3 (some .boolean) ∈ gU ∧ (yX8_isServed.cls = RX8 ∧ yX8_isServed.cls ≠ "java/lang/invoke/MethodHandle" ∧ yX8_isServed.cls ≠ "java/lang/invoke/VarHandle" ∧ (parseMethodDescriptor yX8_isServed.desc).map (fun d => d.parameters.length) = some 2) := ⟨t_5 (i := 1) rfl rfl, t_s (i := 35) rfl rfl, t_1 (i := 12) rfl rfl, t_5 (i := 2) rfl rfl, by decide +kernel⟩
theorem mv_X8_getsOf : Cond.instanceMethod yX8_getsOf ∈ gU ∧ Cond.selects RX8 yX8_getsOf yX8_getsOf ∈ gU ∧ Cond.initialized RX8 ∈ gU ∧ Cond.code yX8_getsOf cX8_getsOf 3 (some .int) ∈ gU ∧ (yX8_getsOf.cls = RX8 ∧ yX8_getsOf.cls ≠ "java/lang/invoke/MethodHandle" ∧ yX8_getsOf.cls ≠ "java/lang/invoke/VarHandle" ∧ (parseMethodDescriptor yX8_getsOf.desc).map (fun d => d.parameters.length) = some 1) := ⟨t_4 (i := 237) rfl rfl, t_s (i := 34) rfl rfl, t_1 (i := 12) rfl rfl, t_4 (i := 238) rfl rfl, by decide +kernel⟩
theorem mv_X8_gets : Cond.instanceMethod yX8_gets ∈ gU ∧ Cond.selects RX8 yX8_gets yX8_gets ∈ gU ∧ Cond.initialized RX8 ∈ gU ∧ Cond.code yX8_gets cX8_gets 2 (some .int) ∈ gU ∧ (yX8_gets.cls = RX8 ∧ yX8_gets.cls ≠ "java/lang/invoke/MethodHandle" ∧ yX8_gets.cls ≠ "java/lang/invoke/VarHandle" ∧ (parseMethodDescriptor yX8_gets.desc).map (fun d => d.parameters.length) = some 1) := ⟨t_4 (i := 232) rfl rfl, t_4 (i := 233) rfl rfl, t_1 (i := 12) rfl rfl, t_4 (i := 234) rfl rfl, by decide +kernel⟩
theorem mv_X8_first : Cond.instanceMethod yX8_first ∈ gU ∧ Cond.selects RX8 yX8_first yX8_first ∈ gU ∧ Cond.initialized RX8 ∈ gU ∧ Cond.code yX8_first cX8_first 2 (some .int) ∈ gU ∧ (yX8_first.cls = RX8 ∧ yX8_first.cls ≠ "java/lang/invoke/MethodHandle" ∧ yX8_first.cls ≠ "java/lang/invoke/VarHandle" ∧ (parseMethodDescriptor yX8_first.desc).map (fun d => d.parameters.length) = some 1) := ⟨t_5 (i := 4) rfl rfl, t_5 (i := 5) rfl rfl, t_1 (i := 12) rfl rfl, t_5 (i := 6) rfl rfl, by decide +kernel⟩
theorem mv_X8_still : Cond.instanceMethod yX8_still ∈ gU ∧ Cond.selects RX8 yX8_still yX8_still ∈ gU ∧ Cond.initialized RX8 ∈ gU ∧ Cond.code yX8_still cX8_still 1 (some .int) ∈ gU ∧ (yX8_still.cls = RX8 ∧ yX8_still.cls ≠ "java/lang/invoke/MethodHandle" ∧ yX8_still.cls ≠ "java/lang/invoke/VarHandle" ∧ (parseMethodDescriptor yX8_still.desc).map (fun d => d.parameters.length) = some 0) := ⟨t_5 (i := 8) rfl rfl, t_5 (i := 9) rfl rfl, t_1 (i := 12) rfl rfl, t_5 (i := 10) rfl rfl, by decide +kernel⟩
theorem mv_X8_servedBy : Cond.instanceMethod yX8_servedBy ∈ gU ∧ Cond.selects RX8 yX8_servedBy yX8_servedBy ∈ gU ∧ Cond.initialized RX8 ∈ gU ∧ Cond.code yX8_servedBy cX8_servedBy 4 (some .int) ∈ gU ∧ (yX8_servedBy.cls = RX8 ∧ yX8_servedBy.cls ≠ "java/lang/invoke/MethodHandle" ∧ yX8_servedBy.cls ≠ "java/lang/invoke/VarHandle" ∧ (parseMethodDescriptor yX8_servedBy.desc).map (fun d => d.parameters.length) = some 1) := ⟨t_5 (i := 17) rfl rfl, t_s (i := 36) rfl rfl, t_1 (i := 12) rfl rfl, t_5 (i := 18) rfl rfl, by decide +kernel⟩
theorem mv_X8_served : Cond.instanceMethod yX8_served ∈ gU ∧ Cond.selects RX8 yX8_served yX8_served ∈ gU ∧ Cond.initialized RX8 ∈ gU ∧ Cond.code yX8_served cX8_served 2 (some .int) ∈ gU ∧ (yX8_served.cls = RX8 ∧ yX8_served.cls ≠ "java/lang/invoke/MethodHandle" ∧ yX8_served.cls ≠ "java/lang/invoke/VarHandle" ∧ (parseMethodDescriptor yX8_served.desc).map (fun d => d.parameters.length) = some 1) := ⟨t_5 (i := 12) rfl rfl, t_5 (i := 13) rfl rfl, t_1 (i := 12) rfl rfl, t_5 (i := 14) rfl rfl, by decide +kernel⟩
theorem mv_X8_wantsOf : Cond.instanceMethod yX8_wantsOf ∈ gU ∧ Cond.selects RX8 yX8_wantsOf yX8_wantsOf ∈ gU ∧ Cond.initialized RX8 ∈ gU ∧ Cond.code yX8_wantsOf cX8_wantsOf 3 (some .boolean) ∈ gU ∧ (yX8_wantsOf.cls = RX8 ∧ yX8_wantsOf.cls ≠ "java/lang/invoke/MethodHandle" ∧ yX8_wantsOf.cls ≠ "java/lang/invoke/VarHandle" ∧ (parseMethodDescriptor yX8_wantsOf.desc).map (fun d => d.parameters.length) = some 2) := ⟨t_5 (i := 33) rfl rfl, t_s (i := 39) rfl rfl, t_1 (i := 12) rfl rfl, t_5 (i := 34) rfl rfl, by decide +kernel⟩
theorem mv_X8_isRing : Cond.instanceMethod yX8_isRing ∈ gU ∧ Cond.selects RX8 yX8_isRing yX8_isRing ∈ gU ∧ Cond.initialized RX8 ∈ gU ∧ Cond.code yX8_isRing cX8_isRing 4 (some .boolean) ∈ gU ∧ (yX8_isRing.cls = RX8 ∧ yX8_isRing.cls ≠ "java/lang/invoke/MethodHandle" ∧ yX8_isRing.cls ≠ "java/lang/invoke/VarHandle" ∧ (parseMethodDescriptor yX8_isRing.desc).map (fun d => d.parameters.length) = some 3) := ⟨t_5 (i := 29) rfl rfl, t_s (i := 38) rfl rfl, t_1 (i := 12) rfl rfl, t_5 (i := 30) rfl rfl, by decide +kernel⟩
theorem mv_X8_ringsNow : Cond.instanceMethod yX8_ringsNow ∈ gU ∧ Cond.selects RX8 yX8_ringsNow yX8_ringsNow ∈ gU ∧ Cond.initialized RX8 ∈ gU ∧ Cond.code yX8_ringsNow cX8_ringsNow 8 (some .int) ∈ gU ∧ (yX8_ringsNow.cls = RX8 ∧ yX8_ringsNow.cls ≠ "java/lang/invoke/MethodHandle" ∧ yX8_ringsNow.cls ≠ "java/lang/invoke/VarHandle" ∧ (parseMethodDescriptor yX8_ringsNow.desc).map (fun d => d.parameters.length) = some 1) := ⟨t_5 (i := 25) rfl rfl, t_s (i := 37) rfl rfl, t_1 (i := 12) rfl rfl, t_5 (i := 26) rfl rfl, by decide +kernel⟩
theorem mv_X8_rings : Cond.instanceMethod yX8_rings ∈ gU ∧ Cond.selects RX8 yX8_rings yX8_rings ∈ gU ∧ Cond.initialized RX8 ∈ gU ∧ Cond.code yX8_rings cX8_rings 2 (some .int) ∈ gU ∧ (yX8_rings.cls = RX8 ∧ yX8_rings.cls ≠ "java/lang/invoke/MethodHandle" ∧ yX8_rings.cls ≠ "java/lang/invoke/VarHandle" ∧ (parseMethodDescriptor yX8_rings.desc).map (fun d => d.parameters.length) = some 1) := ⟨t_5 (i := 20) rfl rfl, t_5 (i := 21) rfl rfl, t_1 (i := 12) rfl rfl, t_5 (i := 22) rfl rfl, by decide +kernel⟩
theorem mv_X8_openOf : Cond.instanceMethod yX8_openOf ∈ gU ∧ Cond.selects RX8 yX8_openOf yX8_openOf ∈ gU ∧ Cond.initialized RX8 ∈ gU ∧ Cond.code yX8_openOf cX8_openOf 8 (some .int) ∈ gU ∧ (yX8_openOf.cls = RX8 ∧ yX8_openOf.cls ≠ "java/lang/invoke/MethodHandle" ∧ yX8_openOf.cls ≠ "java/lang/invoke/VarHandle" ∧ (parseMethodDescriptor yX8_openOf.desc).map (fun d => d.parameters.length) = some 2) := ⟨t_5 (i := 41) rfl rfl, t_s (i := 40) rfl rfl, t_1 (i := 12) rfl rfl, t_5 (i := 42) rfl rfl, by decide +kernel⟩
theorem mv_X8_open : Cond.instanceMethod yX8_open ∈ gU ∧ Cond.selects RX8 yX8_open yX8_open ∈ gU ∧ Cond.initialized RX8 ∈ gU ∧ Cond.code yX8_open cX8_open 3 (some .int) ∈ gU ∧ (yX8_open.cls = RX8 ∧ yX8_open.cls ≠ "java/lang/invoke/MethodHandle" ∧ yX8_open.cls ≠ "java/lang/invoke/VarHandle" ∧ (parseMethodDescriptor yX8_open.desc).map (fun d => d.parameters.length) = some 2) := ⟨t_5 (i := 36) rfl rfl, t_5 (i := 37) rfl rfl, t_1 (i := 12) rfl rfl, t_5 (i := 38) rfl rfl, by decide +kernel⟩
theorem mv_X8_leastOf : Cond.instanceMethod yX8_leastOf ∈ gU ∧ Cond.selects RX8 yX8_leastOf yX8_leastOf ∈ gU ∧ Cond.initialized RX8 ∈ gU ∧ Cond.code yX8_leastOf cX8_leastOf 7 (some .int) ∈ gU ∧ (yX8_leastOf.cls = RX8 ∧ yX8_leastOf.cls ≠ "java/lang/invoke/MethodHandle" ∧ yX8_leastOf.cls ≠ "java/lang/invoke/VarHandle" ∧ (parseMethodDescriptor yX8_leastOf.desc).map (fun d => d.parameters.length) = some 1) := ⟨t_5 (i := 52) rfl rfl, t_s (i := 41) rfl rfl, t_1 (i := 12) rfl rfl, t_5 (i := 53) rfl rfl, by decide +kernel⟩
theorem mv_X8_least : Cond.instanceMethod yX8_least ∈ gU ∧ Cond.selects RX8 yX8_least yX8_least ∈ gU ∧ Cond.initialized RX8 ∈ gU ∧ Cond.code yX8_least cX8_least 2 (some .int) ∈ gU ∧ (yX8_least.cls = RX8 ∧ yX8_least.cls ≠ "java/lang/invoke/MethodHandle" ∧ yX8_least.cls ≠ "java/lang/invoke/VarHandle" ∧ (parseMethodDescriptor yX8_least.desc).map (fun d => d.parameters.length) = some 1) := ⟨t_5 (i := 47) rfl rfl, t_5 (i := 48) rfl rfl, t_1 (i := 12) rfl rfl, t_5 (i := 49) rfl rfl, by decide +kernel⟩
theorem mv_X8_topOf : Cond.instanceMethod yX8_topOf ∈ gU ∧ Cond.selects RX8 yX8_topOf yX8_topOf ∈ gU ∧ Cond.initialized RX8 ∈ gU ∧ Cond.code yX8_topOf cX8_topOf 6 (some .int) ∈ gU ∧ (yX8_topOf.cls = RX8 ∧ yX8_topOf.cls ≠ "java/lang/invoke/MethodHandle" ∧ yX8_topOf.cls ≠ "java/lang/invoke/VarHandle" ∧ (parseMethodDescriptor yX8_topOf.desc).map (fun d => d.parameters.length) = some 1) := ⟨t_5 (i := 63) rfl rfl, t_s (i := 42) rfl rfl, t_1 (i := 12) rfl rfl, t_5 (i := 64) rfl rfl, by decide +kernel⟩
theorem mv_X8_top : Cond.instanceMethod yX8_top ∈ gU ∧ Cond.selects RX8 yX8_top yX8_top ∈ gU ∧ Cond.initialized RX8 ∈ gU ∧ Cond.code yX8_top cX8_top 2 (some .int) ∈ gU ∧ (yX8_top.cls = RX8 ∧ yX8_top.cls ≠ "java/lang/invoke/MethodHandle" ∧ yX8_top.cls ≠ "java/lang/invoke/VarHandle" ∧ (parseMethodDescriptor yX8_top.desc).map (fun d => d.parameters.length) = some 1) := ⟨t_5 (i := 58) rfl rfl, t_5 (i := 59) rfl rfl, t_1 (i := 12) rfl rfl, t_5 (i := 60) rfl rfl, by decide +kernel⟩
theorem mv_X8_seen : Cond.instanceMethod yX8_seen ∈ gU ∧ Cond.selects RX8 yX8_seen yX8_seen ∈ gU ∧ Cond.initialized RX8 ∈ gU ∧ Cond.code yX8_seen cX8_seen 4 (some .int) ∈ gU ∧ (yX8_seen.cls = RX8 ∧ yX8_seen.cls ≠ "java/lang/invoke/MethodHandle" ∧ yX8_seen.cls ≠ "java/lang/invoke/VarHandle" ∧ (parseMethodDescriptor yX8_seen.desc).map (fun d => d.parameters.length) = some 3) := ⟨t_5 (i := 66) rfl rfl, t_5 (i := 67) rfl rfl, t_1 (i := 12) rfl rfl, t_5 (i := 68) rfl rfl, by decide +kernel⟩
theorem mv_X8_forget : Cond.instanceMethod yX8_forget ∈ gU ∧ Cond.selects RX8 yX8_forget yX8_forget ∈ gU ∧ Cond.initialized RX8 ∈ gU ∧ Cond.code yX8_forget cX8_forget 2 (some .int) ∈ gU ∧ (yX8_forget.cls = RX8 ∧ yX8_forget.cls ≠ "java/lang/invoke/MethodHandle" ∧ yX8_forget.cls ≠ "java/lang/invoke/VarHandle" ∧ (parseMethodDescriptor yX8_forget.desc).map (fun d => d.parameters.length) = some 0) := ⟨t_5 (i := 71) rfl rfl, t_5 (i := 72) rfl rfl, t_1 (i := 12) rfl rfl, t_5 (i := 73) rfl rfl, by decide +kernel⟩
theorem mv_X8_read : Cond.instanceMethod yX8_read ∈ gU ∧ Cond.selects RX8 yX8_read yX8_read ∈ gU ∧ Cond.initialized RX8 ∈ gU ∧ Cond.code yX8_read cX8_read 5 (some .int) ∈ gU ∧ (yX8_read.cls = RX8 ∧ yX8_read.cls ≠ "java/lang/invoke/MethodHandle" ∧ yX8_read.cls ≠ "java/lang/invoke/VarHandle" ∧ (parseMethodDescriptor yX8_read.desc).map (fun d => d.parameters.length) = some 1) := ⟨t_5 (i := 75) rfl rfl, t_5 (i := 76) rfl rfl, t_1 (i := 12) rfl rfl, t_5 (i := 77) rfl rfl, by decide +kernel⟩
theorem mv_X8_isSeen : Cond.instanceMethod yX8_isSeen ∈ gU ∧ Cond.selects RX8 yX8_isSeen yX8_isSeen ∈ gU ∧ Cond.initialized RX8 ∈ gU ∧ Cond.code yX8_isSeen cX8_isSeen 5 (some .boolean) ∈ gU ∧ (yX8_isSeen.cls = RX8 ∧ yX8_isSeen.cls ≠ "java/lang/invoke/MethodHandle" ∧ yX8_isSeen.cls ≠ "java/lang/invoke/VarHandle" ∧ (parseMethodDescriptor yX8_isSeen.desc).map (fun d => d.parameters.length) = some 0) := ⟨t_5 (i := 89) rfl rfl, t_s (i := 44) rfl rfl, t_1 (i := 12) rfl rfl, t_5 (i := 90) rfl rfl, by decide +kernel⟩
theorem mv_X8_hadOf : Cond.instanceMethod yX8_hadOf ∈ gU ∧ Cond.selects RX8 yX8_hadOf yX8_hadOf ∈ gU ∧ Cond.initialized RX8 ∈ gU ∧ Cond.code yX8_hadOf cX8_hadOf 5 (some .int) ∈ gU ∧ (yX8_hadOf.cls = RX8 ∧ yX8_hadOf.cls ≠ "java/lang/invoke/MethodHandle" ∧ yX8_hadOf.cls ≠ "java/lang/invoke/VarHandle" ∧ (parseMethodDescriptor yX8_hadOf.desc).map (fun d => d.parameters.length) = some 1) := ⟨t_5 (i := 85) rfl rfl, t_s (i := 43) rfl rfl, t_1 (i := 12) rfl rfl, t_5 (i := 86) rfl rfl, by decide +kernel⟩
theorem mv_X8_had : Cond.instanceMethod yX8_had ∈ gU ∧ Cond.selects RX8 yX8_had yX8_had ∈ gU ∧ Cond.initialized RX8 ∈ gU ∧ Cond.code yX8_had cX8_had 2 (some .int) ∈ gU ∧ (yX8_had.cls = RX8 ∧ yX8_had.cls ≠ "java/lang/invoke/MethodHandle" ∧ yX8_had.cls ≠ "java/lang/invoke/VarHandle" ∧ (parseMethodDescriptor yX8_had.desc).map (fun d => d.parameters.length) = some 1) := ⟨t_5 (i := 80) rfl rfl, t_5 (i := 81) rfl rfl, t_1 (i := 12) rfl rfl, t_5 (i := 82) rfl rfl, by decide +kernel⟩
theorem mv_X8_wasNow : Cond.instanceMethod yX8_wasNow ∈ gU ∧ Cond.selects RX8 yX8_wasNow yX8_wasNow ∈ gU ∧ Cond.initialized RX8 ∈ gU ∧ Cond.code yX8_wasNow cX8_wasNow 4 (some .int) ∈ gU ∧ (yX8_wasNow.cls = RX8 ∧ yX8_wasNow.cls ≠ "java/lang/invoke/MethodHandle" ∧ yX8_wasNow.cls ≠ "java/lang/invoke/VarHandle" ∧ (parseMethodDescriptor yX8_wasNow.desc).map (fun d => d.parameters.length) = some 0) := ⟨t_5 (i := 97) rfl rfl, t_s (i := 45) rfl rfl, t_1 (i := 12) rfl rfl, t_5 (i := 98) rfl rfl, by decide +kernel⟩
theorem mv_X8_was : Cond.instanceMethod yX8_was ∈ gU ∧ Cond.selects RX8 yX8_was yX8_was ∈ gU ∧ Cond.initialized RX8 ∈ gU ∧ Cond.code yX8_was cX8_was 1 (some .int) ∈ gU ∧ (yX8_was.cls = RX8 ∧ yX8_was.cls ≠ "java/lang/invoke/MethodHandle" ∧ yX8_was.cls ≠ "java/lang/invoke/VarHandle" ∧ (parseMethodDescriptor yX8_was.desc).map (fun d => d.parameters.length) = some 0) := ⟨t_5 (i := 92) rfl rfl, t_5 (i := 93) rfl rfl, t_1 (i := 12) rfl rfl, t_5 (i := 94) rfl rfl, by decide +kernel⟩
theorem mv_X8_askOf : Cond.instanceMethod yX8_askOf ∈ gU ∧ Cond.selects RX8 yX8_askOf yX8_askOf ∈ gU ∧ Cond.initialized RX8 ∈ gU ∧ Cond.code yX8_askOf cX8_askOf 9 (some .int) ∈ gU ∧ (yX8_askOf.cls = RX8 ∧ yX8_askOf.cls ≠ "java/lang/invoke/MethodHandle" ∧ yX8_askOf.cls ≠ "java/lang/invoke/VarHandle" ∧ (parseMethodDescriptor yX8_askOf.desc).map (fun d => d.parameters.length) = some 1) := ⟨t_5 (i := 105) rfl rfl, t_s (i := 46) rfl rfl, t_1 (i := 12) rfl rfl, t_5 (i := 106) rfl rfl, by decide +kernel⟩
theorem mv_X8_ask : Cond.instanceMethod yX8_ask ∈ gU ∧ Cond.selects RX8 yX8_ask yX8_ask ∈ gU ∧ Cond.initialized RX8 ∈ gU ∧ Cond.code yX8_ask cX8_ask 2 (some .int) ∈ gU ∧ (yX8_ask.cls = RX8 ∧ yX8_ask.cls ≠ "java/lang/invoke/MethodHandle" ∧ yX8_ask.cls ≠ "java/lang/invoke/VarHandle" ∧ (parseMethodDescriptor yX8_ask.desc).map (fun d => d.parameters.length) = some 1) := ⟨t_5 (i := 100) rfl rfl, t_5 (i := 101) rfl rfl, t_1 (i := 12) rfl rfl, t_5 (i := 102) rfl rfl, by decide +kernel⟩
theorem mv_X8_maybeOf : Cond.instanceMethod yX8_maybeOf ∈ gU ∧ Cond.selects RX8 yX8_maybeOf yX8_maybeOf ∈ gU ∧ Cond.initialized RX8 ∈ gU ∧ Cond.code yX8_maybeOf cX8_maybeOf 12 (some .long) ∈ gU ∧ (yX8_maybeOf.cls = RX8 ∧ yX8_maybeOf.cls ≠ "java/lang/invoke/MethodHandle" ∧ yX8_maybeOf.cls ≠ "java/lang/invoke/VarHandle" ∧ (parseMethodDescriptor yX8_maybeOf.desc).map (fun d => d.parameters.length) = some 4) := ⟨t_5 (i := 114) rfl rfl, t_s (i := 47) rfl rfl, t_1 (i := 12) rfl rfl, t_5 (i := 115) rfl rfl, by decide +kernel⟩
theorem mv_X8_maybe : Cond.instanceMethod yX8_maybe ∈ gU ∧ Cond.selects RX8 yX8_maybe yX8_maybe ∈ gU ∧ Cond.initialized RX8 ∈ gU ∧ Cond.code yX8_maybe cX8_maybe 5 (some .long) ∈ gU ∧ (yX8_maybe.cls = RX8 ∧ yX8_maybe.cls ≠ "java/lang/invoke/MethodHandle" ∧ yX8_maybe.cls ≠ "java/lang/invoke/VarHandle" ∧ (parseMethodDescriptor yX8_maybe.desc).map (fun d => d.parameters.length) = some 4) := ⟨t_5 (i := 108) rfl rfl, t_5 (i := 109) rfl rfl, t_1 (i := 12) rfl rfl, t_5 (i := 110) rfl rfl, by decide +kernel⟩
theorem mv_X8_lot : Cond.instanceMethod yX8_lot ∈ gU ∧ Cond.selects RX8 yX8_lot yX8_lot ∈ gU ∧ Cond.initialized RX8 ∈ gU ∧ Cond.code yX8_lot cX8_lot 2 (some .int) ∈ gU ∧ (yX8_lot.cls = RX8 ∧ yX8_lot.cls ≠ "java/lang/invoke/MethodHandle" ∧ yX8_lot.cls ≠ "java/lang/invoke/VarHandle" ∧ (parseMethodDescriptor yX8_lot.desc).map (fun d => d.parameters.length) = some 1) := ⟨t_5 (i := 133) rfl rfl, t_s (i := 49) rfl rfl, t_1 (i := 12) rfl rfl, t_5 (i := 134) rfl rfl, by decide +kernel⟩
theorem mv_X8_depotOf : Cond.instanceMethod yX8_depotOf ∈ gU ∧ Cond.selects RX8 yX8_depotOf yX8_depotOf ∈ gU ∧ Cond.initialized RX8 ∈ gU ∧ Cond.code yX8_depotOf cX8_depotOf 5 (some .int) ∈ gU ∧ (yX8_depotOf.cls = RX8 ∧ yX8_depotOf.cls ≠ "java/lang/invoke/MethodHandle" ∧ yX8_depotOf.cls ≠ "java/lang/invoke/VarHandle" ∧ (parseMethodDescriptor yX8_depotOf.desc).map (fun d => d.parameters.length) = some 3) := ⟨t_5 (i := 129) rfl rfl, t_s (i := 48) rfl rfl, t_1 (i := 12) rfl rfl, t_5 (i := 130) rfl rfl, by decide +kernel⟩
theorem mv_X8_depot : Cond.instanceMethod yX8_depot ∈ gU ∧ Cond.selects RX8 yX8_depot yX8_depot ∈ gU ∧ Cond.initialized RX8 ∈ gU ∧ Cond.code yX8_depot cX8_depot 4 (some .int) ∈ gU ∧ (yX8_depot.cls = RX8 ∧ yX8_depot.cls ≠ "java/lang/invoke/MethodHandle" ∧ yX8_depot.cls ≠ "java/lang/invoke/VarHandle" ∧ (parseMethodDescriptor yX8_depot.desc).map (fun d => d.parameters.length) = some 3) := ⟨t_5 (i := 124) rfl rfl, t_5 (i := 125) rfl rfl, t_1 (i := 12) rfl rfl, t_5 (i := 126) rfl rfl, by decide +kernel⟩
theorem mv_X8_write : Cond.instanceMethod yX8_write ∈ gU ∧ Cond.selects RX8 yX8_write yX8_write ∈ gU ∧ Cond.initialized RX8 ∈ gU ∧ Cond.code yX8_write cX8_write 5 (some .int) ∈ gU ∧ (yX8_write.cls = RX8 ∧ yX8_write.cls ≠ "java/lang/invoke/MethodHandle" ∧ yX8_write.cls ≠ "java/lang/invoke/VarHandle" ∧ (parseMethodDescriptor yX8_write.desc).map (fun d => d.parameters.length) = some 2) := ⟨t_5 (i := 137) rfl rfl, t_5 (i := 138) rfl rfl, t_1 (i := 12) rfl rfl, t_5 (i := 139) rfl rfl, by decide +kernel⟩
theorem mv_X8_count : Cond.instanceMethod yX8_count ∈ gU ∧ Cond.selects RX8 yX8_count yX8_count ∈ gU ∧ Cond.initialized RX8 ∈ gU ∧ Cond.code yX8_count cX8_count 2 (some .int) ∈ gU ∧ (yX8_count.cls = RX8 ∧ yX8_count.cls ≠ "java/lang/invoke/MethodHandle" ∧ yX8_count.cls ≠ "java/lang/invoke/VarHandle" ∧ (parseMethodDescriptor yX8_count.desc).map (fun d => d.parameters.length) = some 1) := ⟨t_5 (i := 144) rfl rfl, t_5 (i := 145) rfl rfl, t_1 (i := 12) rfl rfl, t_5 (i := 146) rfl rfl, by decide +kernel⟩
theorem mv_X8_tellsRider : Cond.instanceMethod yX8_tellsRider ∈ gU ∧ Cond.selects RX8 yX8_tellsRider yX8_tellsRider ∈ gU ∧ Cond.initialized RX8 ∈ gU ∧ Cond.code yX8_tellsRider cX8_tellsRider 7 (some .long) ∈ gU ∧ (yX8_tellsRider.cls = RX8 ∧ yX8_tellsRider.cls ≠ "java/lang/invoke/MethodHandle" ∧ yX8_tellsRider.cls ≠ "java/lang/invoke/VarHandle" ∧ (parseMethodDescriptor yX8_tellsRider.desc).map (fun d => d.parameters.length) = some 2) := ⟨t_5 (i := 156) rfl rfl, t_s (i := 50) rfl rfl, t_1 (i := 12) rfl rfl, t_5 (i := 157) rfl rfl, by decide +kernel⟩
theorem mv_X8_tellsDay : Cond.instanceMethod yX8_tellsDay ∈ gU ∧ Cond.selects RX8 yX8_tellsDay yX8_tellsDay ∈ gU ∧ Cond.initialized RX8 ∈ gU ∧ Cond.code yX8_tellsDay cX8_tellsDay 6 (some .long) ∈ gU ∧ (yX8_tellsDay.cls = RX8 ∧ yX8_tellsDay.cls ≠ "java/lang/invoke/MethodHandle" ∧ yX8_tellsDay.cls ≠ "java/lang/invoke/VarHandle" ∧ (parseMethodDescriptor yX8_tellsDay.desc).map (fun d => d.parameters.length) = some 2) := ⟨t_5 (i := 160) rfl rfl, t_s (i := 51) rfl rfl, t_1 (i := 12) rfl rfl, t_5 (i := 161) rfl rfl, by decide +kernel⟩
theorem mv_X8_digest : Cond.instanceMethod yX8_digest ∈ gU ∧ Cond.selects RX8 yX8_digest yX8_digest ∈ gU ∧ Cond.initialized RX8 ∈ gU ∧ Cond.code yX8_digest cX8_digest 4 (some .long) ∈ gU ∧ (yX8_digest.cls = RX8 ∧ yX8_digest.cls ≠ "java/lang/invoke/MethodHandle" ∧ yX8_digest.cls ≠ "java/lang/invoke/VarHandle" ∧ (parseMethodDescriptor yX8_digest.desc).map (fun d => d.parameters.length) = some 0) := ⟨t_5 (i := 148) rfl rfl, t_5 (i := 149) rfl rfl, t_1 (i := 12) rfl rfl, t_5 (i := 150) rfl rfl, by decide +kernel⟩
theorem ms_J6_bitCount_0f7a4 : Cond.static yJ6_bitCount_0f7a4 ∈ gU ∧ Cond.initialized yJ6_bitCount_0f7a4.cls ∈ gU ∧ Cond.code yJ6_bitCount_0f7a4 cJ6_bitCount_0f7a4 1 (some .int) ∈ gU ∧ (yJ6_bitCount_0f7a4.cls ≠ "java/lang/invoke/MethodHandle" ∧ yJ6_bitCount_0f7a4.cls ≠ "java/lang/invoke/VarHandle" ∧ (parseMethodDescriptor yJ6_bitCount_0f7a4.desc).map (fun d => d.parameters.length) = some 1) := ⟨t_3 (i := 11) rfl rfl, t_1 (i := 13) rfl rfl, t_3 (i := 12) rfl rfl, by decide +kernel⟩
theorem ms_J9_max_7cf53 : Cond.static yJ9_max_7cf53 ∈ gU ∧ Cond.initialized yJ9_max_7cf53.cls ∈ gU ∧ Cond.code yJ9_max_7cf53 cJ9_max_7cf53 2 (some .int) ∈ gU ∧ (yJ9_max_7cf53.cls ≠ "java/lang/invoke/MethodHandle" ∧ yJ9_max_7cf53.cls ≠ "java/lang/invoke/VarHandle" ∧ (parseMethodDescriptor yJ9_max_7cf53.desc).map (fun d => d.parameters.length) = some 2) := ⟨t_1 (i := 30) rfl rfl, t_1 (i := 3) rfl rfl, t_1 (i := 31) rfl rfl, by decide +kernel⟩
theorem ms_J9_min_7cf53 : Cond.static yJ9_min_7cf53 ∈ gU ∧ Cond.initialized yJ9_min_7cf53.cls ∈ gU ∧ Cond.code yJ9_min_7cf53 cJ9_min_7cf53 2 (some .int) ∈ gU ∧ (yJ9_min_7cf53.cls ≠ "java/lang/invoke/MethodHandle" ∧ yJ9_min_7cf53.cls ≠ "java/lang/invoke/VarHandle" ∧ (parseMethodDescriptor yJ9_min_7cf53.desc).map (fun d => d.parameters.length) = some 2) := ⟨t_2 (i := 200) rfl rfl, t_1 (i := 3) rfl rfl, t_2 (i := 201) rfl rfl, by decide +kernel⟩
theorem ms_J7_fill_53178 : Cond.static yJ7_fill_53178 ∈ gU ∧ Cond.initialized yJ7_fill_53178.cls ∈ gU ∧ Cond.code yJ7_fill_53178 cJ7_fill_53178 4 (none) ∈ gU ∧ (yJ7_fill_53178.cls ≠ "java/lang/invoke/MethodHandle" ∧ yJ7_fill_53178.cls ≠ "java/lang/invoke/VarHandle" ∧ (parseMethodDescriptor yJ7_fill_53178.desc).map (fun d => d.parameters.length) = some 2) := ⟨t_2 (i := 23) rfl rfl, t_1 (i := 10) rfl rfl, t_2 (i := 24) rfl rfl, by decide +kernel⟩
theorem lay_X0 : ∀ k, k < 2 → u_lay RX0 TX0 k ∈ gU := fun k hk => match k, hk with
  | 0, _ => t_1 (i := 60) rfl rfl
  | 1, _ => t_1 (i := 62) rfl rfl
  | k + 2, h => absurd h (by omega)
theorem kc_X0 : vwCl[0]? = some (RX0, TX0, 2) ∧ (∀ w ∈ u_ws RX0 TX0 2, w ∈ gU) ∧ (∀ k, k < 2 → parseFieldDescriptor (TX0 k).2.2.1 = some (tyX0 k)) ∧ ∀ a, a < 2 → ∀ b, b < 2 → a ≠ b → (TX0 a).2.1 ≠ (TX0 b).2.1 := ⟨rfl, fun w hw => by obtain ⟨k, hk, rfl⟩ := List.mem_map.mp hw; exact lay_X0 k (List.mem_range.mp hk), tyX0_ok, nmX0⟩
theorem lay_X1 : ∀ k, k < 16 → u_lay RX1 TX1 k ∈ gU := fun k hk => match k, hk with
  | 0, _ => t_1 (i := 160) rfl rfl
  | 1, _ => t_1 (i := 162) rfl rfl
  | 2, _ => t_1 (i := 164) rfl rfl
  | 3, _ => t_1 (i := 166) rfl rfl
  | 4, _ => t_1 (i := 168) rfl rfl
  | 5, _ => t_1 (i := 170) rfl rfl
  | 6, _ => t_1 (i := 172) rfl rfl
  | 7, _ => t_1 (i := 174) rfl rfl
  | 8, _ => t_1 (i := 176) rfl rfl
  | 9, _ => t_1 (i := 178) rfl rfl
  | 10, _ => t_1 (i := 180) rfl rfl
  | 11, _ => t_1 (i := 182) rfl rfl
  | 12, _ => t_1 (i := 184) rfl rfl
  | 13, _ => t_1 (i := 186) rfl rfl
  | 14, _ => t_1 (i := 188) rfl rfl
  | 15, _ => t_1 (i := 190) rfl rfl
  | k + 16, h => absurd h (by omega)
theorem kc_X1 : vwCl[1]? = some (RX1, TX1, 16) ∧ (∀ w ∈ u_ws RX1 TX1 16, w ∈ gU) ∧ (∀ k, k < 16 → parseFieldDescriptor (TX1 k).2.2.1 = some (tyX1 k)) ∧ ∀ a, a < 16 → ∀ b, b < 16 → a ≠ b → (TX1 a).2.1 ≠ (TX1 b).2.1 := ⟨rfl, fun w hw => by obtain ⟨k, hk, rfl⟩ := List.mem_map.mp hw; exact lay_X1 k (List.mem_range.mp hk), tyX1_ok, nmX1⟩
theorem lay_X2 : ∀ k, k < 3 → u_lay RX2 TX2 k ∈ gU := fun k hk => match k, hk with
  | 0, _ => t_2 (i := 6) rfl rfl
  | 1, _ => t_2 (i := 8) rfl rfl
  | 2, _ => t_2 (i := 10) rfl rfl
  | k + 3, h => absurd h (by omega)
theorem kc_X2 : vwCl[2]? = some (RX2, TX2, 3) ∧ (∀ w ∈ u_ws RX2 TX2 3, w ∈ gU) ∧ (∀ k, k < 3 → parseFieldDescriptor (TX2 k).2.2.1 = some (tyX2 k)) ∧ ∀ a, a < 3 → ∀ b, b < 3 → a ≠ b → (TX2 a).2.1 ≠ (TX2 b).2.1 := ⟨rfl, fun w hw => by obtain ⟨k, hk, rfl⟩ := List.mem_map.mp hw; exact lay_X2 k (List.mem_range.mp hk), tyX2_ok, nmX2⟩
theorem lay_X3 : ∀ k, k < 4 → u_lay RX3 TX3 k ∈ gU := fun k hk => match k, hk with
  | 0, _ => t_1 (i := 224) rfl rfl
  | 1, _ => t_1 (i := 226) rfl rfl
  | 2, _ => t_1 (i := 228) rfl rfl
  | 3, _ => t_1 (i := 230) rfl rfl
  | k + 4, h => absurd h (by omega)
theorem kc_X3 : vwCl[3]? = some (RX3, TX3, 4) ∧ (∀ w ∈ u_ws RX3 TX3 4, w ∈ gU) ∧ (∀ k, k < 4 → parseFieldDescriptor (TX3 k).2.2.1 = some (tyX3 k)) ∧ ∀ a, a < 4 → ∀ b, b < 4 → a ≠ b → (TX3 a).2.1 ≠ (TX3 b).2.1 := ⟨rfl, fun w hw => by obtain ⟨k, hk, rfl⟩ := List.mem_map.mp hw; exact lay_X3 k (List.mem_range.mp hk), tyX3_ok, nmX3⟩
theorem lay_X4 : ∀ k, k < 4 → u_lay RX4 TX4 k ∈ gU := fun k hk => match k, hk with
  | 0, _ => t_1 (i := 203) rfl rfl
  | 1, _ => t_1 (i := 205) rfl rfl
  | 2, _ => t_1 (i := 207) rfl rfl
  | 3, _ => t_1 (i := 209) rfl rfl
  | k + 4, h => absurd h (by omega)
theorem kc_X4 : vwCl[4]? = some (RX4, TX4, 4) ∧ (∀ w ∈ u_ws RX4 TX4 4, w ∈ gU) ∧ (∀ k, k < 4 → parseFieldDescriptor (TX4 k).2.2.1 = some (tyX4 k)) ∧ ∀ a, a < 4 → ∀ b, b < 4 → a ≠ b → (TX4 a).2.1 ≠ (TX4 b).2.1 := ⟨rfl, fun w hw => by obtain ⟨k, hk, rfl⟩ := List.mem_map.mp hw; exact lay_X4 k (List.mem_range.mp hk), tyX4_ok, nmX4⟩
theorem lay_X5 : ∀ k, k < 2 → u_lay RX5 TX5 k ∈ gU := fun k hk => match k, hk with
  | 0, _ => t_1 (i := 37) rfl rfl
  | 1, _ => t_1 (i := 39) rfl rfl
  | k + 2, h => absurd h (by omega)
theorem kc_X5 : vwCl[5]? = some (RX5, TX5, 2) ∧ (∀ w ∈ u_ws RX5 TX5 2, w ∈ gU) ∧ (∀ k, k < 2 → parseFieldDescriptor (TX5 k).2.2.1 = some (tyX5 k)) ∧ ∀ a, a < 2 → ∀ b, b < 2 → a ≠ b → (TX5 a).2.1 ≠ (TX5 b).2.1 := ⟨rfl, fun w hw => by obtain ⟨k, hk, rfl⟩ := List.mem_map.mp hw; exact lay_X5 k (List.mem_range.mp hk), tyX5_ok, nmX5⟩
theorem lay_X6 : ∀ k, k < 12 → u_lay RX6 TX6 k ∈ gU := fun k hk => match k, hk with
  | 0, _ => t_1 (i := 99) rfl rfl
  | 1, _ => t_1 (i := 101) rfl rfl
  | 2, _ => t_1 (i := 103) rfl rfl
  | 3, _ => t_1 (i := 105) rfl rfl
  | 4, _ => t_1 (i := 107) rfl rfl
  | 5, _ => t_1 (i := 109) rfl rfl
  | 6, _ => t_1 (i := 111) rfl rfl
  | 7, _ => t_1 (i := 113) rfl rfl
  | 8, _ => t_1 (i := 115) rfl rfl
  | 9, _ => t_1 (i := 117) rfl rfl
  | 10, _ => t_1 (i := 119) rfl rfl
  | 11, _ => t_1 (i := 121) rfl rfl
  | k + 12, h => absurd h (by omega)
theorem kc_X6 : vwCl[6]? = some (RX6, TX6, 12) ∧ (∀ w ∈ u_ws RX6 TX6 12, w ∈ gU) ∧ (∀ k, k < 12 → parseFieldDescriptor (TX6 k).2.2.1 = some (tyX6 k)) ∧ ∀ a, a < 12 → ∀ b, b < 12 → a ≠ b → (TX6 a).2.1 ≠ (TX6 b).2.1 := ⟨rfl, fun w hw => by obtain ⟨k, hk, rfl⟩ := List.mem_map.mp hw; exact lay_X6 k (List.mem_range.mp hk), tyX6_ok, nmX6⟩
theorem lay_X7 : ∀ k, k < 10 → u_lay RX7 TX7 k ∈ gU := fun k hk => match k, hk with
  | 0, _ => t_2 (i := 116) rfl rfl
  | 1, _ => t_2 (i := 118) rfl rfl
  | 2, _ => t_2 (i := 120) rfl rfl
  | 3, _ => t_2 (i := 122) rfl rfl
  | 4, _ => t_2 (i := 124) rfl rfl
  | 5, _ => t_2 (i := 126) rfl rfl
  | 6, _ => t_2 (i := 128) rfl rfl
  | 7, _ => t_2 (i := 130) rfl rfl
  | 8, _ => t_2 (i := 132) rfl rfl
  | 9, _ => t_2 (i := 134) rfl rfl
  | k + 10, h => absurd h (by omega)
theorem kc_X7 : vwCl[7]? = some (RX7, TX7, 10) ∧ (∀ w ∈ u_ws RX7 TX7 10, w ∈ gU) ∧ (∀ k, k < 10 → parseFieldDescriptor (TX7 k).2.2.1 = some (tyX7 k)) ∧ ∀ a, a < 10 → ∀ b, b < 10 → a ≠ b → (TX7 a).2.1 ≠ (TX7 b).2.1 := ⟨rfl, fun w hw => by obtain ⟨k, hk, rfl⟩ := List.mem_map.mp hw; exact lay_X7 k (List.mem_range.mp hk), tyX7_ok, nmX7⟩
theorem lay_X8 : ∀ k, k < 30 → u_lay RX8 TX8 k ∈ gU := fun k hk => match k, hk with
  | 0, _ => t_4 (i := 0) rfl rfl
  | 1, _ => t_4 (i := 2) rfl rfl
  | 2, _ => t_4 (i := 4) rfl rfl
  | 3, _ => t_4 (i := 6) rfl rfl
  | 4, _ => t_4 (i := 8) rfl rfl
  | 5, _ => t_4 (i := 10) rfl rfl
  | 6, _ => t_4 (i := 12) rfl rfl
  | 7, _ => t_4 (i := 14) rfl rfl
  | 8, _ => t_4 (i := 16) rfl rfl
  | 9, _ => t_4 (i := 18) rfl rfl
  | 10, _ => t_4 (i := 20) rfl rfl
  | 11, _ => t_4 (i := 22) rfl rfl
  | 12, _ => t_4 (i := 24) rfl rfl
  | 13, _ => t_4 (i := 26) rfl rfl
  | 14, _ => t_4 (i := 28) rfl rfl
  | 15, _ => t_4 (i := 30) rfl rfl
  | 16, _ => t_4 (i := 32) rfl rfl
  | 17, _ => t_4 (i := 34) rfl rfl
  | 18, _ => t_4 (i := 36) rfl rfl
  | 19, _ => t_4 (i := 38) rfl rfl
  | 20, _ => t_4 (i := 40) rfl rfl
  | 21, _ => t_4 (i := 42) rfl rfl
  | 22, _ => t_4 (i := 44) rfl rfl
  | 23, _ => t_4 (i := 46) rfl rfl
  | 24, _ => t_4 (i := 48) rfl rfl
  | 25, _ => t_4 (i := 50) rfl rfl
  | 26, _ => t_4 (i := 52) rfl rfl
  | 27, _ => t_4 (i := 54) rfl rfl
  | 28, _ => t_4 (i := 56) rfl rfl
  | 29, _ => t_4 (i := 58) rfl rfl
  | k + 30, h => absurd h (by omega)
theorem kc_X8 : vwCl[8]? = some (RX8, TX8, 30) ∧ (∀ w ∈ u_ws RX8 TX8 30, w ∈ gU) ∧ (∀ k, k < 30 → parseFieldDescriptor (TX8 k).2.2.1 = some (tyX8 k)) ∧ ∀ a, a < 30 → ∀ b, b < 30 → a ≠ b → (TX8 a).2.1 ≠ (TX8 b).2.1 := ⟨rfl, fun w hw => by obtain ⟨k, hk, rfl⟩ := List.mem_map.mp hw; exact lay_X8 k (List.mem_range.mp hk), tyX8_ok, nmX8⟩
theorem w_nat : Cond.native arraycopyName ∈ gU := t_2 (i := 66) rfl rfl
theorem w_sta : Cond.static arraycopyName ∈ gU := t_2 (i := 65) rfl rfl
theorem w_sys : Cond.initialized "java/lang/System" ∈ gU := t_1 (i := 11) rfl rfl
end
section
/-! THE G LAYER: the system's cells stand at labels (a layout, fixed once the constructors are through); their numbers are a table v; a goal gx_G is: from pc, locals lv, stack st and table v the machine comes to Q. -/
abbrev gV : Type := (Nat → Nat → Int32) × (Nat → Nat → Int64)
abbrev gk : Type := (Nat × List (Option Nat)) ⊕ (Nat ⊕ (Nat ⊕ (Nat × List Nat)))
abbrev gk_o (ci : Nat) (tm : List (Option Nat)) : gk := .inl (ci, tm)
abbrev gk_i (n : Nat) : gk := .inr (.inl n)
abbrev gk_l (n : Nat) : gk := .inr (.inr (.inl n))
abbrev gk_r (t : Nat) (ls : List Nat) : gk := .inr (.inr (.inr (t, ls)))
def gx_f (σ : Nat → Nat) (g : Nat → Int32) : Nat → List (Option Nat) → List Value
  | _, [] => []
  | j, none :: t => .int (g j) :: gx_f σ g (j + 1) t
  | j, some r :: t => .ref (σ r) :: gx_f σ g (j + 1) t
def gx_e (σ : Nat → Nat) (ty : Nat → ClassId) (k : gk) (q : Nat) (v : gV) : va_E := match k with
  | .inl (ci, tm) => .inr (ci, gx_f σ (v.1 q) 0 tm)
  | .inr (.inl n) => .inl (ty 0, n, .inl (v.1 q))
  | .inr (.inr (.inl n)) => .inl (ty 1, n, .inr (.inl (v.2 q)))
  | .inr (.inr (.inr (t, ls))) => .inl (ty t, ls.length, .inr (.inr (.inr (.inr (fun i => (ls[i]?).map σ)))))
def gx_w (lay : List gk) (σ : Nat → Nat) (ty : Nat → ClassId) (v : gV) : va_W := lay.mapIdx (fun q k => (σ q, gx_e σ ty k q v))
def sA (v : gV) (q : Nat) (f : Nat → Int32) : gV := (fun a => if a = q then f else v.1 a, v.2)
def sI (v : gV) (q j : Nat) (x : Int32) : gV := sA v q (upd (v.1 q) j x)
def sL (v : gV) (q j : Nat) (x : Int64) : gV := (v.1, fun a => if a = q then vp_updL (v.2 q) j x else v.2 a)
theorem gx_fI {σ : Nat → Nat} {g : Nat → Int32} : ∀ (tm : List (Option Nat)) (i j : Nat), tm[j]? = some none → (gx_f σ g i tm)[j]? = some (.int (g (i + j)))
  | [], _, _, h => by simp at h
  | none :: t, i, 0, _ => by simp [gx_f]
  | some r :: t, i, 0, h => by simp at h
  | none :: t, i, j + 1, h => by
    rw [show i + (j + 1) = i + 1 + j by omega, gx_f, List.getElem?_cons_succ]
    exact gx_fI t (i + 1) j (by simpa using h)
  | some r :: t, i, j + 1, h => by
    rw [show i + (j + 1) = i + 1 + j by omega, gx_f, List.getElem?_cons_succ]
    exact gx_fI t (i + 1) j (by simpa using h)
theorem gx_fR {σ : Nat → Nat} {g : Nat → Int32} {r : Nat} : ∀ (tm : List (Option Nat)) (i j : Nat), tm[j]? = some (some r) → (gx_f σ g i tm)[j]? = some (.ref (σ r))
  | [], _, _, h => by simp at h
  | none :: t, i, 0, h => by simp at h
  | some r' :: t, i, 0, h => by
    have e : r' = r := by simpa using h
    simp [gx_f, e]
  | none :: t, i, j + 1, h => by
    rw [gx_f, List.getElem?_cons_succ]
    exact gx_fR t (i + 1) j (by simpa using h)
  | some r' :: t, i, j + 1, h => by
    rw [gx_f, List.getElem?_cons_succ]
    exact gx_fR t (i + 1) j (by simpa using h)
theorem gx_fE {σ : Nat → Nat} {g g' : Nat → Int32} : ∀ (tm : List (Option Nat)) (i : Nat), (∀ k, i ≤ k → g' k = g k) → gx_f σ g' i tm = gx_f σ g i tm
  | [], _, _ => rfl
  | none :: t, i, h => by rw [gx_f, gx_f, h i (Nat.le_refl i), gx_fE t (i + 1) (fun k hk => h k (by omega))]
  | some r :: t, i, h => by rw [gx_f, gx_f, gx_fE t (i + 1) (fun k hk => h k (by omega))]
theorem gx_fS {σ : Nat → Nat} {g : Nat → Int32} {x : Int32} : ∀ (tm : List (Option Nat)) (i j : Nat), tm[j]? = some none → (gx_f σ g i tm).set j (.int x) = gx_f σ (upd g (i + j) x) i tm
  | [], _, _, h => by simp at h
  | some r :: t, i, 0, h => by simp at h
  | none :: t, i, 0, _ => by
    rw [gx_f, gx_f, List.set_cons_zero, gx_fE t (i + 1) (g' := upd g (i + 0) x) (g := g) (fun k hk => by unfold upd; rw [if_neg (by omega)])]
    unfold upd
    rw [if_pos (Nat.add_zero i).symm]
  | none :: t, i, j + 1, h => by
    rw [gx_f, gx_f, List.set_cons_succ, gx_fS t (i + 1) j (by simpa using h), show i + 1 + j = i + (j + 1) by omega]
    unfold upd
    rw [if_neg (by omega)]
  | some r :: t, i, j + 1, h => by
    rw [gx_f, gx_f, List.set_cons_succ, gx_fS t (i + 1) j (by simpa using h), show i + 1 + j = i + (j + 1) by omega]
theorem gx_fL {σ : Nat → Nat} {g : Nat → Int32} : ∀ (tm : List (Option Nat)) (i : Nat), (gx_f σ g i tm).length = tm.length
  | [], _ => rfl
  | none :: t, i => by rw [gx_f, List.length_cons, List.length_cons, gx_fL t]
  | some r :: t, i => by rw [gx_f, List.length_cons, List.length_cons, gx_fL t]
theorem gx_wA {lay : List gk} {σ : Nat → Nat} {ty : Nat → ClassId} {v : gV} {q : Nat} {k : gk} (h : lay[q]? = some k) : (gx_w lay σ ty v)[q]? = some (σ q, gx_e σ ty k q v) := by
  unfold gx_w
  rw [List.getElem?_mapIdx, h]
  rfl
theorem gx_wS {lay : List gk} {σ : Nat → Nat} {ty : Nat → ClassId} {v v' : gV} {q : Nat} {k : gk} (h : lay[q]? = some k) (h1 : ∀ a, a ≠ q → v'.1 a = v.1 a) (h2 : ∀ a, a ≠ q → v'.2 a = v.2 a) : (gx_w lay σ ty v).set q (σ q, gx_e σ ty k q v') = gx_w lay σ ty v' := by
  apply List.ext_getElem?
  intro i
  by_cases hi : i = q
  · subst hi
    have hl : i < (gx_w lay σ ty v).length := by
      unfold gx_w
      rw [List.length_mapIdx]
      exact (List.getElem?_eq_some_iff.mp h).1
    rw [List.getElem?_set_self hl, gx_wA h]
  · rw [List.getElem?_set_ne (fun e => hi e.symm)]
    unfold gx_w
    rw [List.getElem?_mapIdx, List.getElem?_mapIdx]
    cases lay[i]? with
    | none => rfl
    | some k' =>
      have e : gx_e σ ty k' i v = gx_e σ ty k' i v' := by
        unfold gx_e
        rw [h1 i hi, h2 i hi]
      show some (σ i, gx_e σ ty k' i v) = some (σ i, gx_e σ ty k' i v')
      rw [e]
theorem gx_D {lay : List gk} {σ : Nat → Nat} {ty : Nat → ClassId} {A : Nat → Prop} {v v' : gV} (h : va_D A (gx_w lay σ ty v)) : va_D A (gx_w lay σ ty v') := by
  have key : ∀ (k : Nat) (q : Nat × va_E), (gx_w lay σ ty v')[k]? = some q → ∃ q' : Nat × va_E, (gx_w lay σ ty v)[k]? = some q' ∧ q'.1 = q.1 := by
    intro k q hq
    unfold gx_w at hq ⊢
    rw [List.getElem?_mapIdx] at hq ⊢
    cases hk : lay[k]? with
    | none => rw [hk] at hq; simp at hq
    | some g =>
      rw [hk] at hq
      have e : (σ k, gx_e σ ty g k v') = q := by simpa using hq
      exact ⟨(σ k, gx_e σ ty g k v), rfl, by rw [← e]⟩
  refine ⟨fun i j x y hx hy hxy => ?_, fun k q hq => ?_⟩
  · obtain ⟨x', h1, h2⟩ := key i x hx
    obtain ⟨y', h3, h4⟩ := key j y hy
    exact h.1 i j x' y' h1 h3 (by rw [h2, h4]; exact hxy)
  · obtain ⟨q', h1, h2⟩ := key k q hq
    rw [← h2]
    exact h.2 k q' h1
abbrev gC : Type := Program × Launch × Env × Room × State × MethodId × Array Value × List Frame × Method × Code
abbrev gO : Type := (Nat → Nat) × (Nat → ClassId) × va_G × (Nat → Prop)
abbrev gx_tys (ty : Nat → ClassId) : List (ClassId × FieldType) := [(ty 0, .int), (ty 1, .long), (ty 2, .object RX5), (ty 3, .object RX2), (ty 4, .object RX0), (ty 5, .array .int)]
def gx_K (D : va_G) (ty : Nat → ClassId) (U : State) : Prop := va_K D vwCl (gx_tys ty) U ∧ va_Nw (.methodLinkNest RX3 21 yX7_isOutside RX7) U
theorem gx_K.warm {D : va_G} {ty : Nat → ClassId} {s U : State} (h : gx_K D ty s) (hW : s.WarmedH U.vm) : gx_K D ty U := ⟨va_K.moved hW.alike h.1, va_Nw.warmM hW h.2⟩
theorem gx_K.calling {D : va_G} {ty : Nat → ClassId} {U : State} (h : gx_K D ty U) (g : JFrame) (mk : MethodId) (a : Array Value) : gx_K D ty (U.calling g mk a) := ⟨va_K.moved (u := U) (U := U.calling g mk a) (Vm.Alike.refl U.vm) h.1, va_Nw.same rfl (u := U) (U := U.calling g mk a) rfl h.2⟩
def gx_X (Γ : gC) (Ω : gO) (cc : ByteArray) (own : String) (nL : Nat) (ret : Option FieldType) : Prop :=
  Γ.1.tables.exec = Jvm.exec ∧ Γ.2.2.2.2.2.2.2.2.2.code = cc ∧ Γ.2.2.2.2.2.2.2.2.2.maxLocals = nL ∧ Γ.2.2.2.2.1.vm.findClass own = some Γ.2.2.2.2.2.1.cls ∧ (∀ w ∈ gU, w.before Γ.2.2.2.2.2.2.1 Γ.2.2.2.2.1 = true) ∧ gx_K Ω.2.2.1 Ω.2.1 Γ.2.2.2.2.1 ∧ Γ.2.2.2.2.2.2.2.2.1.sig.returnType = ret ∧ Γ.2.2.2.2.2.2.2.2.1.locks = false
abbrev gx_W (Γ : gC) (H : Heap) (locs : List Loc) (Q : State → Prop) (g : JFrame) : Prop := W Γ.1 Γ.2.1 Γ.2.2.1 Γ.2.2.2.1 Γ.2.2.2.2.1 Γ.2.2.2.2.2.1 Γ.2.2.2.2.2.2.1 Γ.2.2.2.2.2.2.2.1 Γ.2.2.2.2.2.2.2.2.1 Γ.2.2.2.2.2.2.2.2.2 H locs 0 0 Q g
def gx_G (Γ : gC) (Ω : gO) (lay : List gk) (Q : State → Prop) (nL : Nat) (v : gV) (pc : Nat) (lv : List (Nat × Value)) (st : List Value) : Prop :=
  ∀ (H : Heap) (locs : List Loc) (ls : Array Slot), va_P Ω.2.2.1 vwCl (gx_w lay Ω.1 Ω.2.1 v) H → va_D Ω.2.2.2 (gx_w lay Ω.1 Ω.2.1 v) → va_S Ω.2.2.2 Γ.2.2.2.2.1.heap H locs → lv_has ls nL lv → gx_W Γ H locs Q (F0 Γ.2.2.2.2.2.1 pc ls st)
def gx_Qc (Ω : gO) (lay : List gk) (rv : Option Value) (v' : gV) : Array Value → State → Outcome → State → Prop := fun _ st oc t => oc = .returned rv ∧ va_P Ω.2.2.1 vwCl (gx_w lay Ω.1 Ω.2.1 v') t.heap ∧ va_F Ω.2.2.2 st t
abbrev gx_Q (Γ : gC) (Ω : gO) (lay : List gk) (rv : Option Value) (v' : gV) : State → Prop := MQ Γ.2.2.2.2.2.2.2.1 (gx_Qc Ω lay rv v') Γ.2.2.2.2.2.2.1 Γ.2.2.2.2.1 0 0 Ω.2.2.2
abbrev gx_R (d : Nat) : Room := { frames := d, cells := 0, slots := 0, locals := 40 * d }
def gx_Pc (Ω : gO) (lay : List gk) (av : List Value) (v : gV) : Array Value → State → Prop := va_Pc av (fun U => va_P Ω.2.2.1 vwCl (gx_w lay Ω.1 Ω.2.1 v) U.heap ∧ va_D Ω.2.2.2 (gx_w lay Ω.1 Ω.2.1 v) ∧ gx_K Ω.2.2.1 Ω.2.1 U)
/-- a method's contract over a layout: started with av on v it answers rv and leaves v' -/
def gx_M (l : Launch) (Ω : gO) (lay : List gk) (y : MethodName) (cc : ByteArray) (maxL : Nat) (ret : Option FieldType) (d : Nat) (av : List Value) (v : gV) (rv : Option Value) (v' : gV) : Prop :=
  Met l y (.code y cc maxL ret :: gU) (gx_R d) (gx_Pc Ω lay av v) (gx_Qc Ω lay rv v') 0 0 Ω.2.2.2
theorem gx_start {l : Launch} {Ω : gO} {lay : List gk} {y : MethodName} {cc : ByteArray} {maxL : Nat} {ret : Option FieldType} {d : Nat} {av : List Value} {v : gV} {rv : Option Value} {v' : gV} {lv : List (Nat × Value)} (hy : plainFor y = true) (hlen : (lg_sl av).length ≤ maxL) (hlv : lv_args 0 av = lv)
    (body : ∀ Γ : gC, Γ.2.1 = l → Γ.2.2.2.1 = gx_R d → gx_X Γ Ω cc y.cls maxL ret → gx_G Γ Ω lay (gx_Q Γ Ω lay rv v') maxL v 0 lv []) : gx_M l Ω lay y cc maxL ret d av v rv v' := by
  refine va_MetF (cc := cc) (maxL := maxL) (ret := ret) hy rfl ?_
  intro p e s m args below meth c s₁ B hml hv
  obtain ⟨rfl, hP, hD, hK⟩ := hv
  have hts := atoms_spec (ws := .code y cc maxL ret :: gU) B.pre
  have hown : s.vm.findClass y.cls = some m.cls := findClass_of_methodNamed B.named
  have hl := lv_entry av (n := maxL) hlen
  rw [lg_entry_eq]
  rw [hlv] at hl
  exact body (p, l, e, gx_R d, s, m, av.toArray, below, meth, c) rfl rfl ⟨B.exec, B.bytes, hml, hown, fun w h => hts w (List.mem_cons_of_mem _ h), hK, B.returns, B.notSynchronized⟩ s.heap [] _ hP hD va_S.rf hl
def gin (i : Int32) (n : Nat) : Bool := decide (0 ≤ i.toInt ∧ i.toInt < (n : Int))
theorem gin_in {i : Int32} {n : Nat} (h : gin i n = true) : vp_in i n := vp_in_iff.mpr (of_decide_eq_true h)
def jrem (x y : Int32) : Int32 := x - x / y * y
def jremL (x y : Int64) : Int64 := x - x / y * y
def jushr (x y : Int32) : Int32 := (x.toUInt32 >>> (y.toUInt32 &&& Int32.toUInt32 31)).toInt32
def jushrL (x : Int64) (y : Int32) : Int64 := (x.toUInt64 >>> (y.toInt64.toUInt64 &&& Int64.toUInt64 63)).toInt64
def gcp (sp dp n : Int32) (n0 n1 : Nat) : Bool := decide (0 ≤ sp.toInt ∧ 0 ≤ dp.toInt ∧ 0 ≤ n.toInt ∧ sp.toInt + n.toInt ≤ (n0 : Int) ∧ dp.toInt + n.toInt ≤ (n1 : Int))
/-- loops: f's steps from a, at most n of them, until one ends with a b -/
def lp {α β : Type} (f : α → Option (α ⊕ β)) : Nat → α → Option β
  | 0, _ => none
  | n + 1, a => match f a with
    | none => none
    | some (.inl a') => lp f n a'
    | some (.inr b) => some b
theorem lp_ind {α β : Type} {f : α → Option (α ⊕ β)} {P : α → Prop} {Z : β → Prop} (hs : ∀ a o, f a = some o → (∀ a', o = .inl a' → P a') → (∀ b, o = .inr b → Z b) → P a) : ∀ (n : Nat) (a : α) (b : β), lp f n a = some b → Z b → P a
  | 0, a, b, h, _ => by simp [lp] at h
  | n + 1, a, b, h, hz => by
    rw [lp] at h
    cases hf : f a with
    | none => rw [hf] at h; cases h
    | some o =>
      rw [hf] at h
      cases o with
      | inl a' => exact hs a _ hf (fun a2 e => by cases e; exact lp_ind hs n a' b h hz) (fun b2 e => by cases e)
      | inr b' => cases h; exact hs a _ hf (fun a2 e => by cases e) (fun b2 e => by cases e; exact hz)
def fu : Nat := 4096
def bi {ρ : Type} (o : Option (Int32 × gV)) (k : Int32 → gV → Option ρ) : Option ρ := match o with
  | none => none
  | some (r, v) => k r v
def bj {ρ : Type} (o : Option (Int64 × gV)) (k : Int64 → gV → Option ρ) : Option ρ := match o with
  | none => none
  | some (r, v) => k r v
def br {ρ : Type} (o : Option (Nat × gV)) (ok : Nat → Bool) (k : Nat → gV → Option ρ) : Option ρ := match o with
  | none => none
  | some (r, v) => if ok r = true then k r v else none
def bv {ρ : Type} (o : Option gV) (k : gV → Option ρ) : Option ρ := match o with
  | none => none
  | some v => k v
def bx {α ρ : Type} (o : Option α) (k : α → Option ρ) : Option ρ := match o with
  | none => none
  | some v => k v
def ga {ρ : Type} (i : Int32) (ls : List Nat) (ok : Nat → Bool) (k : Nat → Option ρ) : Option ρ := if gin i ls.length = true then (if ok (ls.getD i.toNatClampNeg 0) = true then k (ls.getD i.toNatClampNeg 0) else none) else none
/-- a value is named -/
def bd {α ρ : Type} (a : α) (k : α → Option ρ) : Option ρ := k a
theorem bx_some {α ρ : Type} {o : Option α} {k : α → Option ρ} {r : ρ} (h : bx o k = some r) : ∃ a, o = some a ∧ k a = some r := by
  cases o with
  | none => cases h
  | some a => exact ⟨a, rfl, h⟩
theorem if_some {ρ : Type} {b : Bool} {E : Option ρ} {r : ρ} (h : (if b = true then E else none) = some r) : b = true ∧ E = some r := by
  by_cases hb : b = true
  · rw [if_pos hb] at h
    exact ⟨hb, h⟩
  · rw [if_neg hb] at h
    cases h
section GX
variable {Γ : gC} {Ω : gO} {lay : List gk} {Q : State → Prop} {nL : Nat} {v : gV} {pc n : Nat} {lv : List (Nat × Value)} {st : List Value} {cc : ByteArray} {own : String} {ret : Option FieldType}
theorem gi_iadd (hX : gx_X Γ Ω cc own nL ret) {x y : Int32} (hd : decode cc pc = .ok (.iadd, 1)) (hn : pc + 1 = n) (k : gx_G Γ Ω lay Q nL v n lv (.int (x + y) :: st)) : gx_G Γ Ω lay Q nL v pc lv (.int y :: .int x :: st) := by
  subst hn
  exact fun H locs ls hP hD hS hl => lv_iadd hX.1 hX.2.1 hd  (k H locs ls hP hD hS hl)
theorem gi_isub (hX : gx_X Γ Ω cc own nL ret) {x y : Int32} (hd : decode cc pc = .ok (.isub, 1)) (hn : pc + 1 = n) (k : gx_G Γ Ω lay Q nL v n lv (.int (x - y) :: st)) : gx_G Γ Ω lay Q nL v pc lv (.int y :: .int x :: st) := by
  subst hn
  exact fun H locs ls hP hD hS hl => lv_isub hX.1 hX.2.1 hd  (k H locs ls hP hD hS hl)
theorem gi_imul (hX : gx_X Γ Ω cc own nL ret) {x y : Int32} (hd : decode cc pc = .ok (.imul, 1)) (hn : pc + 1 = n) (k : gx_G Γ Ω lay Q nL v n lv (.int (x * y) :: st)) : gx_G Γ Ω lay Q nL v pc lv (.int y :: .int x :: st) := by
  subst hn
  exact fun H locs ls hP hD hS hl => lv_imul hX.1 hX.2.1 hd  (k H locs ls hP hD hS hl)
theorem gi_iand (hX : gx_X Γ Ω cc own nL ret) {x y : Int32} (hd : decode cc pc = .ok (.iand, 1)) (hn : pc + 1 = n) (k : gx_G Γ Ω lay Q nL v n lv (.int (x &&& y) :: st)) : gx_G Γ Ω lay Q nL v pc lv (.int y :: .int x :: st) := by
  subst hn
  exact fun H locs ls hP hD hS hl => lv_iand hX.1 hX.2.1 hd  (k H locs ls hP hD hS hl)
theorem gi_ior (hX : gx_X Γ Ω cc own nL ret) {x y : Int32} (hd : decode cc pc = .ok (.ior, 1)) (hn : pc + 1 = n) (k : gx_G Γ Ω lay Q nL v n lv (.int (x ||| y) :: st)) : gx_G Γ Ω lay Q nL v pc lv (.int y :: .int x :: st) := by
  subst hn
  exact fun H locs ls hP hD hS hl => lv_ior hX.1 hX.2.1 hd  (k H locs ls hP hD hS hl)
theorem gi_ixor (hX : gx_X Γ Ω cc own nL ret) {x y : Int32} (hd : decode cc pc = .ok (.ixor, 1)) (hn : pc + 1 = n) (k : gx_G Γ Ω lay Q nL v n lv (.int (x ^^^ y) :: st)) : gx_G Γ Ω lay Q nL v pc lv (.int y :: .int x :: st) := by
  subst hn
  exact fun H locs ls hP hD hS hl => lv_ixor hX.1 hX.2.1 hd  (k H locs ls hP hD hS hl)
theorem gi_ishl (hX : gx_X Γ Ω cc own nL ret) {x y : Int32} (hd : decode cc pc = .ok (.ishl, 1)) (hn : pc + 1 = n) (k : gx_G Γ Ω lay Q nL v n lv (.int (x <<< (y &&& 31)) :: st)) : gx_G Γ Ω lay Q nL v pc lv (.int y :: .int x :: st) := by
  subst hn
  exact fun H locs ls hP hD hS hl => lv_ishl hX.1 hX.2.1 hd  (k H locs ls hP hD hS hl)
theorem gi_ishr (hX : gx_X Γ Ω cc own nL ret) {x y : Int32} (hd : decode cc pc = .ok (.ishr, 1)) (hn : pc + 1 = n) (k : gx_G Γ Ω lay Q nL v n lv (.int (x >>> (y &&& 31)) :: st)) : gx_G Γ Ω lay Q nL v pc lv (.int y :: .int x :: st) := by
  subst hn
  exact fun H locs ls hP hD hS hl => lv_ishr hX.1 hX.2.1 hd  (k H locs ls hP hD hS hl)
theorem gi_iushr (hX : gx_X Γ Ω cc own nL ret) {x y : Int32} (hd : decode cc pc = .ok (.iushr, 1)) (hn : pc + 1 = n) (k : gx_G Γ Ω lay Q nL v n lv (.int (jushr x y) :: st)) : gx_G Γ Ω lay Q nL v pc lv (.int y :: .int x :: st) := by
  subst hn
  exact fun H locs ls hP hD hS hl => lv_iushr hX.1 hX.2.1 hd rfl (k H locs ls hP hD hS hl)
theorem gi_ineg (hX : gx_X Γ Ω cc own nL ret) {x : Int32} (hd : decode cc pc = .ok (.ineg, 1)) (hn : pc + 1 = n) (k : gx_G Γ Ω lay Q nL v n lv (.int (-x) :: st)) : gx_G Γ Ω lay Q nL v pc lv (.int x :: st) := by
  subst hn
  exact fun H locs ls hP hD hS hl => lv_ineg hX.1 hX.2.1 hd  (k H locs ls hP hD hS hl)
theorem gi_idiv (hX : gx_X Γ Ω cc own nL ret) {x y : Int32} (h0 : ¬ y = 0) (hd : decode cc pc = .ok (.idiv, 1)) (hn : pc + 1 = n) (k : gx_G Γ Ω lay Q nL v n lv (.int (x / y) :: st)) : gx_G Γ Ω lay Q nL v pc lv (.int y :: .int x :: st) := by
  subst hn
  exact fun H locs ls hP hD hS hl => lv_idiv hX.1 hX.2.1 hd h0 (k H locs ls hP hD hS hl)
theorem gi_irem (hX : gx_X Γ Ω cc own nL ret) {x y : Int32} (h0 : ¬ y = 0) (hd : decode cc pc = .ok (.irem, 1)) (hn : pc + 1 = n) (k : gx_G Γ Ω lay Q nL v n lv (.int (jrem x y) :: st)) : gx_G Γ Ω lay Q nL v pc lv (.int y :: .int x :: st) := by
  subst hn
  exact fun H locs ls hP hD hS hl => lv_irem hX.1 hX.2.1 hd h0 (k H locs ls hP hD hS hl)
theorem gi_ladd (hX : gx_X Γ Ω cc own nL ret) {x y : Int64} (hd : decode cc pc = .ok (.ladd, 1)) (hn : pc + 1 = n) (k : gx_G Γ Ω lay Q nL v n lv (.long (x + y) :: st)) : gx_G Γ Ω lay Q nL v pc lv (.long y :: .long x :: st) := by
  subst hn
  exact fun H locs ls hP hD hS hl => lv_ladd hX.1 hX.2.1 hd  (k H locs ls hP hD hS hl)
theorem gi_lsub (hX : gx_X Γ Ω cc own nL ret) {x y : Int64} (hd : decode cc pc = .ok (.lsub, 1)) (hn : pc + 1 = n) (k : gx_G Γ Ω lay Q nL v n lv (.long (x - y) :: st)) : gx_G Γ Ω lay Q nL v pc lv (.long y :: .long x :: st) := by
  subst hn
  exact fun H locs ls hP hD hS hl => lv_lsub hX.1 hX.2.1 hd  (k H locs ls hP hD hS hl)
theorem gi_lmul (hX : gx_X Γ Ω cc own nL ret) {x y : Int64} (hd : decode cc pc = .ok (.lmul, 1)) (hn : pc + 1 = n) (k : gx_G Γ Ω lay Q nL v n lv (.long (x * y) :: st)) : gx_G Γ Ω lay Q nL v pc lv (.long y :: .long x :: st) := by
  subst hn
  exact fun H locs ls hP hD hS hl => lv_lmul hX.1 hX.2.1 hd  (k H locs ls hP hD hS hl)
theorem gi_land (hX : gx_X Γ Ω cc own nL ret) {x y : Int64} (hd : decode cc pc = .ok (.land, 1)) (hn : pc + 1 = n) (k : gx_G Γ Ω lay Q nL v n lv (.long (x &&& y) :: st)) : gx_G Γ Ω lay Q nL v pc lv (.long y :: .long x :: st) := by
  subst hn
  exact fun H locs ls hP hD hS hl => lv_land hX.1 hX.2.1 hd  (k H locs ls hP hD hS hl)
theorem gi_lor (hX : gx_X Γ Ω cc own nL ret) {x y : Int64} (hd : decode cc pc = .ok (.lor, 1)) (hn : pc + 1 = n) (k : gx_G Γ Ω lay Q nL v n lv (.long (x ||| y) :: st)) : gx_G Γ Ω lay Q nL v pc lv (.long y :: .long x :: st) := by
  subst hn
  exact fun H locs ls hP hD hS hl => lv_lor hX.1 hX.2.1 hd  (k H locs ls hP hD hS hl)
theorem gi_ldiv (hX : gx_X Γ Ω cc own nL ret) {x y : Int64} (h0 : ¬ y = 0) (hd : decode cc pc = .ok (.ldiv, 1)) (hn : pc + 1 = n) (k : gx_G Γ Ω lay Q nL v n lv (.long (x / y) :: st)) : gx_G Γ Ω lay Q nL v pc lv (.long y :: .long x :: st) := by
  subst hn
  exact fun H locs ls hP hD hS hl => lv_ldiv hX.1 hX.2.1 hd h0 (k H locs ls hP hD hS hl)
theorem gi_lrem (hX : gx_X Γ Ω cc own nL ret) {x y : Int64} (h0 : ¬ y = 0) (hd : decode cc pc = .ok (.lrem, 1)) (hn : pc + 1 = n) (k : gx_G Γ Ω lay Q nL v n lv (.long (jremL x y) :: st)) : gx_G Γ Ω lay Q nL v pc lv (.long y :: .long x :: st) := by
  subst hn
  exact fun H locs ls hP hD hS hl => lv_lrem hX.1 hX.2.1 hd h0 (k H locs ls hP hD hS hl)
theorem gi_lshl (hX : gx_X Γ Ω cc own nL ret) {x : Int64} {y : Int32} (hd : decode cc pc = .ok (.lshl, 1)) (hn : pc + 1 = n) (k : gx_G Γ Ω lay Q nL v n lv (.long (x <<< (y.toInt64 &&& 63)) :: st)) : gx_G Γ Ω lay Q nL v pc lv (.int y :: .long x :: st) := by
  subst hn
  exact fun H locs ls hP hD hS hl => lv_lshl hX.1 hX.2.1 hd rfl (k H locs ls hP hD hS hl)
theorem gi_lushr (hX : gx_X Γ Ω cc own nL ret) {x : Int64} {y : Int32} (hd : decode cc pc = .ok (.lushr, 1)) (hn : pc + 1 = n) (k : gx_G Γ Ω lay Q nL v n lv (.long (jushrL x y) :: st)) : gx_G Γ Ω lay Q nL v pc lv (.int y :: .long x :: st) := by
  subst hn
  exact fun H locs ls hP hD hS hl => lv_lushr hX.1 hX.2.1 hd rfl (k H locs ls hP hD hS hl)
theorem gi_i2l (hX : gx_X Γ Ω cc own nL ret) {x : Int32} (hd : decode cc pc = .ok (.i2l, 1)) (hn : pc + 1 = n) (k : gx_G Γ Ω lay Q nL v n lv (.long x.toInt64 :: st)) : gx_G Γ Ω lay Q nL v pc lv (.int x :: st) := by
  subst hn
  exact fun H locs ls hP hD hS hl => lv_i2l hX.1 hX.2.1 hd rfl (k H locs ls hP hD hS hl)
theorem gi_l2i (hX : gx_X Γ Ω cc own nL ret) {x : Int64} (hd : decode cc pc = .ok (.l2i, 1)) (hn : pc + 1 = n) (k : gx_G Γ Ω lay Q nL v n lv (.int x.toInt32 :: st)) : gx_G Γ Ω lay Q nL v pc lv (.long x :: st) := by
  subst hn
  exact fun H locs ls hP hD hS hl => lv_l2i hX.1 hX.2.1 hd rfl (k H locs ls hP hD hS hl)
theorem gi_i2b (hX : gx_X Γ Ω cc own nL ret) {x : Int32} (hd : decode cc pc = .ok (.i2b, 1)) (hn : pc + 1 = n) (k : gx_G Γ Ω lay Q nL v n lv (.int x.toInt8.toInt32 :: st)) : gx_G Γ Ω lay Q nL v pc lv (.int x :: st) := by
  subst hn
  exact fun H locs ls hP hD hS hl => lv_i2b hX.1 hX.2.1 hd rfl (k H locs ls hP hD hS hl)
theorem gi_i2s (hX : gx_X Γ Ω cc own nL ret) {x : Int32} (hd : decode cc pc = .ok (.i2s, 1)) (hn : pc + 1 = n) (k : gx_G Γ Ω lay Q nL v n lv (.int x.toInt16.toInt32 :: st)) : gx_G Γ Ω lay Q nL v pc lv (.int x :: st) := by
  subst hn
  exact fun H locs ls hP hD hS hl => lv_i2s hX.1 hX.2.1 hd rfl (k H locs ls hP hD hS hl)
theorem gi_lcmp (hX : gx_X Γ Ω cc own nL ret) {x y : Int64} (hd : decode cc pc = .ok (.lcmp, 1)) (hn : pc + 1 = n) (k : gx_G Γ Ω lay Q nL v n lv (.int (lg_cmp x y) :: st)) : gx_G Γ Ω lay Q nL v pc lv (.long y :: .long x :: st) := by
  subst hn
  exact fun H locs ls hP hD hS hl => W.lcmp hX.1 hX.2.1 hd  (k H locs ls hP hD hS hl)
theorem gi_dup (hX : gx_X Γ Ω cc own nL ret) {va : Value} (h1 : va.category = 1) (hd : decode cc pc = .ok (.dup, 1)) (hn : pc + 1 = n) (k : gx_G Γ Ω lay Q nL v n lv (va :: va :: st)) : gx_G Γ Ω lay Q nL v pc lv (va :: st) := by
  subst hn
  exact fun H locs ls hP hD hS hl => lv_dup hX.1 hX.2.1 hd h1 (k H locs ls hP hD hS hl)
theorem gi_pop (hX : gx_X Γ Ω cc own nL ret) {va : Value} (h1 : va.category = 1) (hd : decode cc pc = .ok (.pop, 1)) (hn : pc + 1 = n) (k : gx_G Γ Ω lay Q nL v n lv (st)) : gx_G Γ Ω lay Q nL v pc lv (va :: st) := by
  subst hn
  exact fun H locs ls hP hD hS hl => lv_pop hX.1 hX.2.1 hd h1 (k H locs ls hP hD hS hl)
theorem gi_dup2 (hX : gx_X Γ Ω cc own nL ret) {va vb : Value} (h1 : va.category = 1) (h2 : vb.category = 1) (hd : decode cc pc = .ok (.dup2, 1)) (hn : pc + 1 = n) (k : gx_G Γ Ω lay Q nL v n lv (va :: vb :: va :: vb :: st)) : gx_G Γ Ω lay Q nL v pc lv (va :: vb :: st) := by
  subst hn
  exact fun H locs ls hP hD hS hl => lv_dup2_11 hX.1 hX.2.1 hd h1 h2 (k H locs ls hP hD hS hl)
theorem gi_iconst (hX : gx_X Γ Ω cc own nL ret) {i : Int} {x : Int32} (hv : Int32.ofInt i = x) (hd : decode cc pc = .ok (.iconst i, 1)) (hn : pc + 1 = n) (k : gx_G Γ Ω lay Q nL v n lv (.int x :: st)) : gx_G Γ Ω lay Q nL v pc lv (st) := by
  subst hn
  exact fun H locs ls hP hD hS hl => lv_iconst hX.1 hX.2.1 hd hv (k H locs ls hP hD hS hl)
theorem gi_bipush (hX : gx_X Γ Ω cc own nL ret) {i : Int} {x : Int32} (hv : (Int8.ofInt i).toInt32 = x) (hd : decode cc pc = .ok (.bipush i, 2)) (hn : pc + 2 = n) (k : gx_G Γ Ω lay Q nL v n lv (.int x :: st)) : gx_G Γ Ω lay Q nL v pc lv (st) := by
  subst hn
  exact fun H locs ls hP hD hS hl => lv_bipush hX.1 hX.2.1 hd hv (k H locs ls hP hD hS hl)
theorem gi_sipush (hX : gx_X Γ Ω cc own nL ret) {i : Int} {x : Int32} (hv : (Int16.ofInt i).toInt32 = x) (hd : decode cc pc = .ok (.sipush i, 3)) (hn : pc + 3 = n) (k : gx_G Γ Ω lay Q nL v n lv (.int x :: st)) : gx_G Γ Ω lay Q nL v pc lv (st) := by
  subst hn
  exact fun H locs ls hP hD hS hl => lv_sipush hX.1 hX.2.1 hd hv (k H locs ls hP hD hS hl)
theorem gi_lconst (hX : gx_X Γ Ω cc own nL ret) {i : Fin 2} {x : Int64} (hv : Int64.ofNat (i : Nat) = x) (hd : decode cc pc = .ok (.lconst i, 1)) (hn : pc + 1 = n) (k : gx_G Γ Ω lay Q nL v n lv (.long x :: st)) : gx_G Γ Ω lay Q nL v pc lv (st) := by
  subst hn
  exact fun H locs ls hP hD hS hl => lv_lconst hX.1 hX.2.1 hd hv (k H locs ls hP hD hS hl)
theorem gi_ldc (hX : gx_X Γ Ω cc own nL ret) {idx : Nat} {x : Int32} (hw : Cond.constant own idx x ∈ gU) (hd : decode cc pc = .ok (.ldc idx, 2)) (hn : pc + 2 = n) (k : gx_G Γ Ω lay Q nL v n lv (.int x :: st)) : gx_G Γ Ω lay Q nL v pc lv st := by
  subst hn
  exact fun H locs ls hP hD hS hl => lv_ldc hX.1 hX.2.1 hX.2.2.2.1 (hX.2.2.2.2.1 _ hw) hd (k H locs ls hP hD hS hl)
theorem gi_ldcw (hX : gx_X Γ Ω cc own nL ret) {idx : Nat} {x : Int32} (hw : Cond.constant own idx x ∈ gU) (hd : decode cc pc = .ok (.ldc_w idx, 3)) (hn : pc + 3 = n) (k : gx_G Γ Ω lay Q nL v n lv (.int x :: st)) : gx_G Γ Ω lay Q nL v pc lv st := by
  subst hn
  exact fun H locs ls hP hD hS hl => lv_ldcw hX.1 hX.2.1 hX.2.2.2.1 (hX.2.2.2.2.1 _ hw) hd (k H locs ls hP hD hS hl)
theorem gi_ldc2 (hX : gx_X Γ Ω cc own nL ret) {idx : Nat} {x : Int64} (hw : Cond.constantLong own idx x ∈ gU) (hd : decode cc pc = .ok (.ldc2_w idx, 3)) (hn : pc + 3 = n) (k : gx_G Γ Ω lay Q nL v n lv (.long x :: st)) : gx_G Γ Ω lay Q nL v pc lv st := by
  subst hn
  exact fun H locs ls hP hD hS hl => lv_ldc2 hX.1 hX.2.1 hX.2.2.2.1 (hX.2.2.2.2.1 _ hw) hd (k H locs ls hP hD hS hl)
theorem gi_iload_n (hX : gx_X Γ Ω cc own nL ret) (j : Nat) {k4 : Fin 4} {i : Nat} {x : Int32} (hd : decode cc pc = .ok (.iload_n k4, 1)) (hn : pc + 1 = n) (hi : (k4 : Nat) = i) (hj : lv[j]? = some (i, .int x)) (k : gx_G Γ Ω lay Q nL v n lv (.int x :: st)) : gx_G Γ Ω lay Q nL v pc lv st := by
  subst hn
  exact fun H locs ls hP hD hS hl => lv_iload_n hX.1 hX.2.1 hd hi (lv_at hl j hj) (k H locs ls hP hD hS hl)
theorem gi_iload (hX : gx_X Γ Ω cc own nL ret) (j : Nat) {i : Nat} {x : Int32} (hd : decode cc pc = .ok (.iload i, 2)) (hn : pc + 2 = n) (hj : lv[j]? = some (i, .int x)) (k : gx_G Γ Ω lay Q nL v n lv (.int x :: st)) : gx_G Γ Ω lay Q nL v pc lv st := by
  subst hn
  exact fun H locs ls hP hD hS hl => lv_iload hX.1 hX.2.1 hd (lv_at hl j hj) (k H locs ls hP hD hS hl)
theorem gi_istore_n (hX : gx_X Γ Ω cc own nL ret) {k4 : Fin 4} {i : Nat} {x : Int32} (lv' : List (Nat × Value)) (hd : decode cc pc = .ok (.istore_n k4, 1)) (hn : pc + 1 = n) (hi : (k4 : Nat) = i) (hm : Nat.blt (i) nL = true) (hl' : (i, Value.int x) :: lv.filter (fun q => !(q.1 == i) && !(q.1 + 1 == i && q.2.category == 2)) = lv') (k : gx_G Γ Ω lay Q nL v n lv' st) : gx_G Γ Ω lay Q nL v pc lv (.int x :: st) := by
  subst hn
  exact fun H locs ls hP hD hS hl => lv_istore_n hX.1 hX.2.1 hd hi hl (Nat.le_of_ble_eq_true hm) hl' (fun ls' hl2 => k H locs ls' hP hD hS hl2)
theorem gi_istore (hX : gx_X Γ Ω cc own nL ret) {i : Nat} {x : Int32} (lv' : List (Nat × Value)) (hd : decode cc pc = .ok (.istore i, 2)) (hn : pc + 2 = n) (hm : Nat.blt (i) nL = true) (hl' : (i, Value.int x) :: lv.filter (fun q => !(q.1 == i) && !(q.1 + 1 == i && q.2.category == 2)) = lv') (k : gx_G Γ Ω lay Q nL v n lv' st) : gx_G Γ Ω lay Q nL v pc lv (.int x :: st) := by
  subst hn
  exact fun H locs ls hP hD hS hl => lv_istore hX.1 hX.2.1 hd hl (Nat.le_of_ble_eq_true hm) hl' (fun ls' hl2 => k H locs ls' hP hD hS hl2)
theorem gi_lload_n (hX : gx_X Γ Ω cc own nL ret) (j : Nat) {k4 : Fin 4} {i : Nat} {x : Int64} (hd : decode cc pc = .ok (.lload_n k4, 1)) (hn : pc + 1 = n) (hi : (k4 : Nat) = i) (hj : lv[j]? = some (i, .long x)) (k : gx_G Γ Ω lay Q nL v n lv (.long x :: st)) : gx_G Γ Ω lay Q nL v pc lv st := by
  subst hn
  exact fun H locs ls hP hD hS hl => lv_lload_n hX.1 hX.2.1 hd hi (lv_at hl j hj) (k H locs ls hP hD hS hl)
theorem gi_lload (hX : gx_X Γ Ω cc own nL ret) (j : Nat) {i : Nat} {x : Int64} (hd : decode cc pc = .ok (.lload i, 2)) (hn : pc + 2 = n) (hj : lv[j]? = some (i, .long x)) (k : gx_G Γ Ω lay Q nL v n lv (.long x :: st)) : gx_G Γ Ω lay Q nL v pc lv st := by
  subst hn
  exact fun H locs ls hP hD hS hl => lv_lload hX.1 hX.2.1 hd (lv_at hl j hj) (k H locs ls hP hD hS hl)
theorem gi_lstore_n (hX : gx_X Γ Ω cc own nL ret) {k4 : Fin 4} {i : Nat} {x : Int64} (lv' : List (Nat × Value)) (hd : decode cc pc = .ok (.lstore_n k4, 1)) (hn : pc + 1 = n) (hi : (k4 : Nat) = i) (hm : Nat.blt (i + 1) nL = true) (hl' : (i, Value.long x) :: lv.filter (fun q => !(q.1 == i) && (!(q.1 == i + 1) && !(q.1 + 1 == i && q.2.category == 2))) = lv') (k : gx_G Γ Ω lay Q nL v n lv' st) : gx_G Γ Ω lay Q nL v pc lv (.long x :: st) := by
  subst hn
  exact fun H locs ls hP hD hS hl => lv_lstore_n hX.1 hX.2.1 hd hi hl (Nat.le_of_ble_eq_true hm) hl' (fun ls' hl2 => k H locs ls' hP hD hS hl2)
theorem gi_lstore (hX : gx_X Γ Ω cc own nL ret) {i : Nat} {x : Int64} (lv' : List (Nat × Value)) (hd : decode cc pc = .ok (.lstore i, 2)) (hn : pc + 2 = n) (hm : Nat.blt (i + 1) nL = true) (hl' : (i, Value.long x) :: lv.filter (fun q => !(q.1 == i) && (!(q.1 == i + 1) && !(q.1 + 1 == i && q.2.category == 2))) = lv') (k : gx_G Γ Ω lay Q nL v n lv' st) : gx_G Γ Ω lay Q nL v pc lv (.long x :: st) := by
  subst hn
  exact fun H locs ls hP hD hS hl => lv_lstore hX.1 hX.2.1 hd hl (Nat.le_of_ble_eq_true hm) hl' (fun ls' hl2 => k H locs ls' hP hD hS hl2)
theorem gi_aload_n (hX : gx_X Γ Ω cc own nL ret) (j : Nat) {k4 : Fin 4} {i : Nat} {x : Nat} (hd : decode cc pc = .ok (.aload_n k4, 1)) (hn : pc + 1 = n) (hi : (k4 : Nat) = i) (hj : lv[j]? = some (i, .ref x)) (k : gx_G Γ Ω lay Q nL v n lv (.ref x :: st)) : gx_G Γ Ω lay Q nL v pc lv st := by
  subst hn
  exact fun H locs ls hP hD hS hl => lv_aload_n hX.1 hX.2.1 hd hi (lv_at hl j hj) (k H locs ls hP hD hS hl)
theorem gi_aload (hX : gx_X Γ Ω cc own nL ret) (j : Nat) {i : Nat} {x : Nat} (hd : decode cc pc = .ok (.aload i, 2)) (hn : pc + 2 = n) (hj : lv[j]? = some (i, .ref x)) (k : gx_G Γ Ω lay Q nL v n lv (.ref x :: st)) : gx_G Γ Ω lay Q nL v pc lv st := by
  subst hn
  exact fun H locs ls hP hD hS hl => lv_aload hX.1 hX.2.1 hd (lv_at hl j hj) (k H locs ls hP hD hS hl)
theorem gi_astore_n (hX : gx_X Γ Ω cc own nL ret) {k4 : Fin 4} {i : Nat} {x : Nat} (lv' : List (Nat × Value)) (hd : decode cc pc = .ok (.astore_n k4, 1)) (hn : pc + 1 = n) (hi : (k4 : Nat) = i) (hm : Nat.blt (i) nL = true) (hl' : (i, Value.ref x) :: lv.filter (fun q => !(q.1 == i) && !(q.1 + 1 == i && q.2.category == 2)) = lv') (k : gx_G Γ Ω lay Q nL v n lv' st) : gx_G Γ Ω lay Q nL v pc lv (.ref x :: st) := by
  subst hn
  exact fun H locs ls hP hD hS hl => lv_astore_n hX.1 hX.2.1 hd hi hl (Nat.le_of_ble_eq_true hm) hl' (fun ls' hl2 => k H locs ls' hP hD hS hl2)
theorem gi_astore (hX : gx_X Γ Ω cc own nL ret) {i : Nat} {x : Nat} (lv' : List (Nat × Value)) (hd : decode cc pc = .ok (.astore i, 2)) (hn : pc + 2 = n) (hm : Nat.blt (i) nL = true) (hl' : (i, Value.ref x) :: lv.filter (fun q => !(q.1 == i) && !(q.1 + 1 == i && q.2.category == 2)) = lv') (k : gx_G Γ Ω lay Q nL v n lv' st) : gx_G Γ Ω lay Q nL v pc lv (.ref x :: st) := by
  subst hn
  exact fun H locs ls hP hD hS hl => lv_astore hX.1 hX.2.1 hd hl (Nat.le_of_ble_eq_true hm) hl' (fun ls' hl2 => k H locs ls' hP hD hS hl2)
theorem gi_iinc (hX : gx_X Γ Ω cc own nL ret) (j : Nat) {i : Nat} {d : Int} {x y z : Int32} (lv' : List (Nat × Value)) (hd : decode cc pc = .ok (.iinc i d, 3)) (hn : pc + 3 = n) (hj : lv[j]? = some (i, .int x)) (hz : Int32.ofInt d = z) (hy : x + z = y) (hm : Nat.blt i nL = true) (hl' : (i, Value.int y) :: lv.filter (fun q => !(q.1 == i) && !(q.1 + 1 == i && q.2.category == 2)) = lv') (k : gx_G Γ Ω lay Q nL v n lv' st) : gx_G Γ Ω lay Q nL v pc lv st := by
  subst hn
  exact fun H locs ls hP hD hS hl => lv_iinc hX.1 hX.2.1 hd hl hj (by rw [hz]; exact hy) (Nat.le_of_ble_eq_true hm) hl' (fun ls' hl2 => k H locs ls' hP hD hS hl2)
theorem gi_goto (hX : gx_X Γ Ω cc own nL ret) {off : Int} (hd : decode cc pc = .ok (.goto off, 3)) (hn : (pc : Int) + off = (n : Int)) (k : gx_G Γ Ω lay Q nL v n lv st) : gx_G Γ Ω lay Q nL v pc lv st := fun H locs ls hP hD hS hl => lv_goto hX.1 hX.2.1 hd hn (k H locs ls hP hD hS hl)
theorem gi_icmp_eq (hX : gx_X Γ Ω cc own nL ret) {x y : Int32} {off : Int} {tgt : Nat} {ρ : Type} {E1 E2 : Option ρ} {res : ρ} {hdec : Decidable (x = y)} (hd : decode cc pc = .ok (.if_icmp .eq off, 3)) (ht : (pc : Int) + off = (tgt : Int)) (hn : pc + 3 = n) (h : @ite (Option ρ) (x = y) hdec E1 E2 = some res) (kt : E1 = some res → gx_G Γ Ω lay Q nL v tgt lv st) (kf : E2 = some res → gx_G Γ Ω lay Q nL v n lv st) : gx_G Γ Ω lay Q nL v pc lv (.int y :: .int x :: st) := by
  subst hn
  intro H locs ls hP hD hS hl
  refine lv_icmp_eq hX.1 hX.2.1 hd ht (fun hc => ?_) (fun hc => ?_)
  · refine kt ?_ H locs ls hP hD hS hl
    rw [if_pos hc] at h
    exact h
  · refine kf ?_ H locs ls hP hD hS hl
    rw [if_neg hc] at h
    exact h
theorem gi_if_eq (hX : gx_X Γ Ω cc own nL ret) {x : Int32} {off : Int} {tgt : Nat} {ρ : Type} {E1 E2 : Option ρ} {res : ρ} {hdec : Decidable (x = 0)} (hd : decode cc pc = .ok (.ifCond .eq off, 3)) (ht : (pc : Int) + off = (tgt : Int)) (hn : pc + 3 = n) (h : @ite (Option ρ) (x = 0) hdec E1 E2 = some res) (kt : E1 = some res → gx_G Γ Ω lay Q nL v tgt lv st) (kf : E2 = some res → gx_G Γ Ω lay Q nL v n lv st) : gx_G Γ Ω lay Q nL v pc lv (.int x :: st) := by
  subst hn
  intro H locs ls hP hD hS hl
  refine lv_if_eq hX.1 hX.2.1 hd ht (fun hc => ?_) (fun hc => ?_)
  · refine kt ?_ H locs ls hP hD hS hl
    rw [if_pos hc] at h
    exact h
  · refine kf ?_ H locs ls hP hD hS hl
    rw [if_neg hc] at h
    exact h
theorem gi_icmp_ne (hX : gx_X Γ Ω cc own nL ret) {x y : Int32} {off : Int} {tgt : Nat} {ρ : Type} {E1 E2 : Option ρ} {res : ρ} {hdec : Decidable (x = y)} (hd : decode cc pc = .ok (.if_icmp .ne off, 3)) (ht : (pc : Int) + off = (tgt : Int)) (hn : pc + 3 = n) (h : @ite (Option ρ) (x = y) hdec E2 E1 = some res) (kt : E1 = some res → gx_G Γ Ω lay Q nL v tgt lv st) (kf : E2 = some res → gx_G Γ Ω lay Q nL v n lv st) : gx_G Γ Ω lay Q nL v pc lv (.int y :: .int x :: st) := by
  subst hn
  intro H locs ls hP hD hS hl
  refine lv_icmp_ne hX.1 hX.2.1 hd ht (fun hc => ?_) (fun hc => ?_)
  · refine kt ?_ H locs ls hP hD hS hl
    rw [if_neg hc] at h
    exact h
  · refine kf ?_ H locs ls hP hD hS hl
    rw [if_pos hc] at h
    exact h
theorem gi_if_ne (hX : gx_X Γ Ω cc own nL ret) {x : Int32} {off : Int} {tgt : Nat} {ρ : Type} {E1 E2 : Option ρ} {res : ρ} {hdec : Decidable (x = 0)} (hd : decode cc pc = .ok (.ifCond .ne off, 3)) (ht : (pc : Int) + off = (tgt : Int)) (hn : pc + 3 = n) (h : @ite (Option ρ) (x = 0) hdec E2 E1 = some res) (kt : E1 = some res → gx_G Γ Ω lay Q nL v tgt lv st) (kf : E2 = some res → gx_G Γ Ω lay Q nL v n lv st) : gx_G Γ Ω lay Q nL v pc lv (.int x :: st) := by
  subst hn
  intro H locs ls hP hD hS hl
  refine lv_if_ne hX.1 hX.2.1 hd ht (fun hc => ?_) (fun hc => ?_)
  · refine kt ?_ H locs ls hP hD hS hl
    rw [if_neg hc] at h
    exact h
  · refine kf ?_ H locs ls hP hD hS hl
    rw [if_pos hc] at h
    exact h
theorem gi_icmp_lt (hX : gx_X Γ Ω cc own nL ret) {x y : Int32} {off : Int} {tgt : Nat} {ρ : Type} {E1 E2 : Option ρ} {res : ρ} {hdec : Decidable (x < y)} (hd : decode cc pc = .ok (.if_icmp .lt off, 3)) (ht : (pc : Int) + off = (tgt : Int)) (hn : pc + 3 = n) (h : @ite (Option ρ) (x < y) hdec E1 E2 = some res) (kt : E1 = some res → gx_G Γ Ω lay Q nL v tgt lv st) (kf : E2 = some res → gx_G Γ Ω lay Q nL v n lv st) : gx_G Γ Ω lay Q nL v pc lv (.int y :: .int x :: st) := by
  subst hn
  intro H locs ls hP hD hS hl
  refine lv_icmp_lt hX.1 hX.2.1 hd ht (fun hc => ?_) (fun hc => ?_)
  · refine kt ?_ H locs ls hP hD hS hl
    rw [if_pos hc] at h
    exact h
  · refine kf ?_ H locs ls hP hD hS hl
    rw [if_neg hc] at h
    exact h
theorem gi_if_lt (hX : gx_X Γ Ω cc own nL ret) {x : Int32} {off : Int} {tgt : Nat} {ρ : Type} {E1 E2 : Option ρ} {res : ρ} {hdec : Decidable (x < 0)} (hd : decode cc pc = .ok (.ifCond .lt off, 3)) (ht : (pc : Int) + off = (tgt : Int)) (hn : pc + 3 = n) (h : @ite (Option ρ) (x < 0) hdec E1 E2 = some res) (kt : E1 = some res → gx_G Γ Ω lay Q nL v tgt lv st) (kf : E2 = some res → gx_G Γ Ω lay Q nL v n lv st) : gx_G Γ Ω lay Q nL v pc lv (.int x :: st) := by
  subst hn
  intro H locs ls hP hD hS hl
  refine lv_if_lt hX.1 hX.2.1 hd ht (fun hc => ?_) (fun hc => ?_)
  · refine kt ?_ H locs ls hP hD hS hl
    rw [if_pos hc] at h
    exact h
  · refine kf ?_ H locs ls hP hD hS hl
    rw [if_neg hc] at h
    exact h
theorem gi_icmp_ge (hX : gx_X Γ Ω cc own nL ret) {x y : Int32} {off : Int} {tgt : Nat} {ρ : Type} {E1 E2 : Option ρ} {res : ρ} {hdec : Decidable (y ≤ x)} (hd : decode cc pc = .ok (.if_icmp .ge off, 3)) (ht : (pc : Int) + off = (tgt : Int)) (hn : pc + 3 = n) (h : @ite (Option ρ) (y ≤ x) hdec E1 E2 = some res) (kt : E1 = some res → gx_G Γ Ω lay Q nL v tgt lv st) (kf : E2 = some res → gx_G Γ Ω lay Q nL v n lv st) : gx_G Γ Ω lay Q nL v pc lv (.int y :: .int x :: st) := by
  subst hn
  intro H locs ls hP hD hS hl
  refine lv_icmp_ge hX.1 hX.2.1 hd ht (fun hc => ?_) (fun hc => ?_)
  · refine kt ?_ H locs ls hP hD hS hl
    rw [if_pos hc] at h
    exact h
  · refine kf ?_ H locs ls hP hD hS hl
    rw [if_neg hc] at h
    exact h
theorem gi_if_ge (hX : gx_X Γ Ω cc own nL ret) {x : Int32} {off : Int} {tgt : Nat} {ρ : Type} {E1 E2 : Option ρ} {res : ρ} {hdec : Decidable (0 ≤ x)} (hd : decode cc pc = .ok (.ifCond .ge off, 3)) (ht : (pc : Int) + off = (tgt : Int)) (hn : pc + 3 = n) (h : @ite (Option ρ) (0 ≤ x) hdec E1 E2 = some res) (kt : E1 = some res → gx_G Γ Ω lay Q nL v tgt lv st) (kf : E2 = some res → gx_G Γ Ω lay Q nL v n lv st) : gx_G Γ Ω lay Q nL v pc lv (.int x :: st) := by
  subst hn
  intro H locs ls hP hD hS hl
  refine lv_if_ge hX.1 hX.2.1 hd ht (fun hc => ?_) (fun hc => ?_)
  · refine kt ?_ H locs ls hP hD hS hl
    rw [if_pos hc] at h
    exact h
  · refine kf ?_ H locs ls hP hD hS hl
    rw [if_neg hc] at h
    exact h
theorem gi_icmp_gt (hX : gx_X Γ Ω cc own nL ret) {x y : Int32} {off : Int} {tgt : Nat} {ρ : Type} {E1 E2 : Option ρ} {res : ρ} {hdec : Decidable (y < x)} (hd : decode cc pc = .ok (.if_icmp .gt off, 3)) (ht : (pc : Int) + off = (tgt : Int)) (hn : pc + 3 = n) (h : @ite (Option ρ) (y < x) hdec E1 E2 = some res) (kt : E1 = some res → gx_G Γ Ω lay Q nL v tgt lv st) (kf : E2 = some res → gx_G Γ Ω lay Q nL v n lv st) : gx_G Γ Ω lay Q nL v pc lv (.int y :: .int x :: st) := by
  subst hn
  intro H locs ls hP hD hS hl
  refine lv_icmp_gt hX.1 hX.2.1 hd ht (fun hc => ?_) (fun hc => ?_)
  · refine kt ?_ H locs ls hP hD hS hl
    rw [if_pos hc] at h
    exact h
  · refine kf ?_ H locs ls hP hD hS hl
    rw [if_neg hc] at h
    exact h
theorem gi_if_gt (hX : gx_X Γ Ω cc own nL ret) {x : Int32} {off : Int} {tgt : Nat} {ρ : Type} {E1 E2 : Option ρ} {res : ρ} {hdec : Decidable (0 < x)} (hd : decode cc pc = .ok (.ifCond .gt off, 3)) (ht : (pc : Int) + off = (tgt : Int)) (hn : pc + 3 = n) (h : @ite (Option ρ) (0 < x) hdec E1 E2 = some res) (kt : E1 = some res → gx_G Γ Ω lay Q nL v tgt lv st) (kf : E2 = some res → gx_G Γ Ω lay Q nL v n lv st) : gx_G Γ Ω lay Q nL v pc lv (.int x :: st) := by
  subst hn
  intro H locs ls hP hD hS hl
  refine lv_if_gt hX.1 hX.2.1 hd ht (fun hc => ?_) (fun hc => ?_)
  · refine kt ?_ H locs ls hP hD hS hl
    rw [if_pos hc] at h
    exact h
  · refine kf ?_ H locs ls hP hD hS hl
    rw [if_neg hc] at h
    exact h
theorem gi_icmp_le (hX : gx_X Γ Ω cc own nL ret) {x y : Int32} {off : Int} {tgt : Nat} {ρ : Type} {E1 E2 : Option ρ} {res : ρ} {hdec : Decidable (x ≤ y)} (hd : decode cc pc = .ok (.if_icmp .le off, 3)) (ht : (pc : Int) + off = (tgt : Int)) (hn : pc + 3 = n) (h : @ite (Option ρ) (x ≤ y) hdec E1 E2 = some res) (kt : E1 = some res → gx_G Γ Ω lay Q nL v tgt lv st) (kf : E2 = some res → gx_G Γ Ω lay Q nL v n lv st) : gx_G Γ Ω lay Q nL v pc lv (.int y :: .int x :: st) := by
  subst hn
  intro H locs ls hP hD hS hl
  refine lv_icmp_le hX.1 hX.2.1 hd ht (fun hc => ?_) (fun hc => ?_)
  · refine kt ?_ H locs ls hP hD hS hl
    rw [if_pos hc] at h
    exact h
  · refine kf ?_ H locs ls hP hD hS hl
    rw [if_neg hc] at h
    exact h
theorem gi_if_le (hX : gx_X Γ Ω cc own nL ret) {x : Int32} {off : Int} {tgt : Nat} {ρ : Type} {E1 E2 : Option ρ} {res : ρ} {hdec : Decidable (x ≤ 0)} (hd : decode cc pc = .ok (.ifCond .le off, 3)) (ht : (pc : Int) + off = (tgt : Int)) (hn : pc + 3 = n) (h : @ite (Option ρ) (x ≤ 0) hdec E1 E2 = some res) (kt : E1 = some res → gx_G Γ Ω lay Q nL v tgt lv st) (kf : E2 = some res → gx_G Γ Ω lay Q nL v n lv st) : gx_G Γ Ω lay Q nL v pc lv (.int x :: st) := by
  subst hn
  intro H locs ls hP hD hS hl
  refine lv_if_le hX.1 hX.2.1 hd ht (fun hc => ?_) (fun hc => ?_)
  · refine kt ?_ H locs ls hP hD hS hl
    rw [if_pos hc] at h
    exact h
  · refine kf ?_ H locs ls hP hD hS hl
    rw [if_neg hc] at h
    exact h
theorem gi_sub (ks : List Nat) {lv' : List (Nat × Value)} (hl' : lv_pick lv ks = lv') (k : gx_G Γ Ω lay Q nL v pc lv' st) : gx_G Γ Ω lay Q nL v pc lv st := fun H locs ls hP hD hS hl => k H locs ls hP hD hS (lv_sub hl ks hl')
theorem gi_tin (hX : gx_X Γ Ω cc own nL ret) {dflt lo hi off : Int} {offs : Array Int} {len tgt : Nat} {x k0 : Int32} (hd : decode cc pc = .ok (.tableswitch dflt lo hi offs, len)) (hx : x = k0) (hk : decide (¬ k0.toInt < lo ∧ ¬ hi < k0.toInt ∧ offs[(k0.toInt - lo).toNat]? = some off ∧ (pc : Int) + off = (tgt : Int)) = true) (k : gx_G Γ Ω lay Q nL v tgt lv st) : gx_G Γ Ω lay Q nL v pc lv (.int x :: st) := by
  subst hx
  obtain ⟨h1, h2, h3, h4⟩ := of_decide_eq_true hk
  exact fun H locs ls hP hD hS hl => lv_tableIn hX.1 hX.2.1 hd h1 h2 h3 h4 (k H locs ls hP hD hS hl)
theorem gi_tout (hX : gx_X Γ Ω cc own nL ret) {dflt lo hi : Int} {offs : Array Int} {len tgt : Nat} {x : Int32} (hd : decode cc pc = .ok (.tableswitch dflt lo hi offs, len)) (hx : x.toInt < lo ∨ hi < x.toInt) (ht : (pc : Int) + dflt = (tgt : Int)) (k : gx_G Γ Ω lay Q nL v tgt lv st) : gx_G Γ Ω lay Q nL v pc lv (.int x :: st) := fun H locs ls hP hD hS hl => lv_tableOut hX.1 hX.2.1 hd hx ht (k H locs ls hP hD hS hl)
/-- what the tables say of class ci -/
def gx_c (ci : Nat) (C : String) (T : u_T) (N : Nat) (t0 : Nat → FieldType) : Prop := vwCl[ci]? = some (C, T, N) ∧ (∀ w ∈ u_ws C T N, w ∈ gU) ∧ (∀ k, k < N → parseFieldDescriptor (T k).2.2.1 = some (t0 k)) ∧ ∀ a, a < N → ∀ b, b < N → a ≠ b → (T a).2.1 ≠ (T b).2.1
theorem gi_getI (hX : gx_X Γ Ω cc own nL ret) {C : String} {T : u_T} {N ci q idx : Nat} {t0 : Nat → FieldType} {tm : List (Option Nat)} (j : Nat) (hc : gx_c ci C T N t0) (hq : lay[q]? = some (gk_o ci tm)) (hj : tm[j]? = some none) (hk : Nat.blt j N = true) (hw : Cond.fieldLink own idx (T j).1 (T j).2.1 (T j).2.2.1 ∈ gU) (hd : decode cc pc = .ok (.getfield idx, 3)) (hn : pc + 3 = n) (k : gx_G Γ Ω lay Q nL v n lv (.int (v.1 q j) :: st)) : gx_G Γ Ω lay Q nL v pc lv (.ref (Ω.1 q) :: st) := by
  subst hn
  exact fun H locs ls hP hD hS hl => va_get hX.1 hX.2.1 hX.2.2.2.2.1 hc.2.1 hX.2.2.2.1 hX.2.2.2.2.2.1.1 hP q (gx_wA hq) hc.1 j (Nat.le_of_ble_eq_true hk) (hX.2.2.2.2.1 _ hw) (fun _ h => h) (by rw [gx_fI tm 0 j hj, Nat.zero_add]) hd (k H locs ls hP hD hS hl)
theorem gi_getR (hX : gx_X Γ Ω cc own nL ret) {C : String} {T : u_T} {N ci q r idx : Nat} {t0 : Nat → FieldType} {tm : List (Option Nat)} (j : Nat) (hc : gx_c ci C T N t0) (hq : lay[q]? = some (gk_o ci tm)) (hj : tm[j]? = some (some r)) (hk : Nat.blt j N = true) (hw : Cond.fieldLink own idx (T j).1 (T j).2.1 (T j).2.2.1 ∈ gU) (hd : decode cc pc = .ok (.getfield idx, 3)) (hn : pc + 3 = n) (k : gx_G Γ Ω lay Q nL v n lv (.ref (Ω.1 r) :: st)) : gx_G Γ Ω lay Q nL v pc lv (.ref (Ω.1 q) :: st) := by
  subst hn
  exact fun H locs ls hP hD hS hl => va_get hX.1 hX.2.1 hX.2.2.2.2.1 hc.2.1 hX.2.2.2.1 hX.2.2.2.2.2.1.1 hP q (gx_wA hq) hc.1 j (Nat.le_of_ble_eq_true hk) (hX.2.2.2.2.1 _ hw) (fun _ h => h) (gx_fR tm 0 j hj) hd (k H locs ls hP hD hS hl)
theorem gi_putI (hX : gx_X Γ Ω cc own nL ret) {C : String} {T : u_T} {N ci q idx : Nat} {t0 : Nat → FieldType} {tm : List (Option Nat)} {x : Int32} {ρ : Type} {E : gV → Option ρ} {res : ρ} (j : Nat) (hc : gx_c ci C T N t0) (hq : lay[q]? = some (gk_o ci tm)) (hj : tm[j]? = some none) (hk : Nat.blt j N = true) (hw : Cond.fieldLink own idx (T j).1 (T j).2.1 (T j).2.2.1 ∈ gU) (hf : (T j).2.2.2 = false) (ht : parseFieldDescriptor (T j).2.2.1 = some .int) (hd : decode cc pc = .ok (.putfield idx, 3)) (hn : pc + 3 = n) (h : bd (sI v q j x) E = some res) (k : ∀ v1 : gV, E v1 = some res → gx_G Γ Ω lay Q nL v1 n lv st) : gx_G Γ Ω lay Q nL v pc lv (.int x :: .ref (Ω.1 q) :: st) := by
  subst hn
  intro H locs ls hP hD hS hl
  refine va_put (ty := .int) hX.1 hX.2.1 hX.2.2.2.2.1 hc.2.1 t0 hc.2.2.1 hc.2.2.2 hX.2.2.2.1 hX.2.2.2.2.2.1.1 hP hD hS q (gx_wA hq) hc.1 j (Nat.le_of_ble_eq_true hk) (hX.2.2.2.2.1 _ hw) (fun _ h => h) hf ht rfl rfl (by rw [gx_fL]; exact (List.getElem?_eq_some_iff.mp hj).1) hd (fun H1 locs1 hP1 hD1 hS1 => ?_)
  have e : (gx_w lay Ω.1 Ω.2.1 v).set q (Ω.1 q, .inr (ci, (gx_f Ω.1 (v.1 q) 0 tm).set j (.int x))) = gx_w lay Ω.1 Ω.2.1 (sI v q j x) := by
    rw [gx_fS tm 0 j hj, Nat.zero_add, ← gx_wS (v := v) (v' := sI v q j x) hq (fun a ha => if_neg ha) (fun _ _ => rfl)]
    show _ = (gx_w lay Ω.1 Ω.2.1 v).set q (Ω.1 q, .inr (ci, gx_f Ω.1 ((sI v q j x).1 q) 0 tm))
    rw [show (sI v q j x).1 q = upd (v.1 q) j x from if_pos rfl]
  rw [e] at hP1 hD1
  exact k _ h H1 locs1 ls hP1 hD1 hS1 hl
theorem gi_iald (hX : gx_X Γ Ω cc own nL ret) {q N : Nat} {i : Int32} {ρ : Type} {E : Option ρ} {res : ρ} (hq : lay[q]? = some (gk_i N)) (hd : decode cc pc = .ok (.iaload, 1)) (hn : pc + 1 = n) (h : (if gin i N = true then E else none) = some res) (k : E = some res → gx_G Γ Ω lay Q nL v n lv (.int (v.1 q i.toNatClampNeg) :: st)) : gx_G Γ Ω lay Q nL v pc lv (.int i :: .ref (Ω.1 q) :: st) := by
  subst hn
  obtain ⟨h1, h2⟩ := if_some h
  exact fun H locs ls hP hD hS hl => va_iald hX.1 hX.2.1 hX.2.2.2.2.2.1.1 hP q 0 (gx_wA hq) rfl (gin_in h1) hd (k h2 H locs ls hP hD hS hl)
theorem gi_lald (hX : gx_X Γ Ω cc own nL ret) {q N : Nat} {i : Int32} {ρ : Type} {E : Option ρ} {res : ρ} (hq : lay[q]? = some (gk_l N)) (hd : decode cc pc = .ok (.laload, 1)) (hn : pc + 1 = n) (h : (if gin i N = true then E else none) = some res) (k : E = some res → gx_G Γ Ω lay Q nL v n lv (.long (v.2 q i.toNatClampNeg) :: st)) : gx_G Γ Ω lay Q nL v pc lv (.int i :: .ref (Ω.1 q) :: st) := by
  subst hn
  obtain ⟨h1, h2⟩ := if_some h
  exact fun H locs ls hP hD hS hl => va_lald hX.1 hX.2.1 hX.2.2.2.2.2.1.1 hP q 1 (gx_wA hq) rfl (gin_in h1) hd (k h2 H locs ls hP hD hS hl)
theorem gi_iast (hX : gx_X Γ Ω cc own nL ret) {q N : Nat} {i x : Int32} {ρ : Type} {E : gV → Option ρ} {res : ρ} (hq : lay[q]? = some (gk_i N)) (hd : decode cc pc = .ok (.iastore, 1)) (hn : pc + 1 = n) (h : (if gin i N = true then bd (sI v q i.toNatClampNeg x) E else none) = some res) (k : ∀ v1 : gV, E v1 = some res → gx_G Γ Ω lay Q nL v1 n lv st) : gx_G Γ Ω lay Q nL v pc lv (.int x :: .int i :: .ref (Ω.1 q) :: st) := by
  subst hn
  obtain ⟨h1, h2⟩ := if_some h
  intro H locs ls hP hD hS hl
  refine va_iast hX.1 hX.2.1 hX.2.2.2.2.2.1.1 hP hD hS q 0 (gx_wA hq) rfl (gin_in h1) hd (fun H1 locs1 hP1 hD1 hS1 => ?_)
  have e : (gx_w lay Ω.1 Ω.2.1 v).set q (Ω.1 q, .inl (Ω.2.1 0, N, .inl (upd (v.1 q) i.toNatClampNeg x))) = gx_w lay Ω.1 Ω.2.1 (sI v q i.toNatClampNeg x) := by
    rw [← gx_wS (v := v) (v' := sI v q i.toNatClampNeg x) hq (fun a ha => if_neg ha) (fun _ _ => rfl)]
    show _ = (gx_w lay Ω.1 Ω.2.1 v).set q (Ω.1 q, .inl (Ω.2.1 0, N, .inl ((sI v q i.toNatClampNeg x).1 q)))
    rw [show (sI v q i.toNatClampNeg x).1 q = upd (v.1 q) i.toNatClampNeg x from if_pos rfl]
  rw [e] at hP1 hD1
  exact k _ h2 H1 locs1 ls hP1 hD1 hS1 hl
theorem gi_last (hX : gx_X Γ Ω cc own nL ret) {q N : Nat} {i : Int32} {x : Int64} {ρ : Type} {E : gV → Option ρ} {res : ρ} (hq : lay[q]? = some (gk_l N)) (hd : decode cc pc = .ok (.lastore, 1)) (hn : pc + 1 = n) (h : (if gin i N = true then bd (sL v q i.toNatClampNeg x) E else none) = some res) (k : ∀ v1 : gV, E v1 = some res → gx_G Γ Ω lay Q nL v1 n lv st) : gx_G Γ Ω lay Q nL v pc lv (.long x :: .int i :: .ref (Ω.1 q) :: st) := by
  subst hn
  obtain ⟨h1, h2⟩ := if_some h
  intro H locs ls hP hD hS hl
  refine va_last hX.1 hX.2.1 hX.2.2.2.2.2.1.1 hP hD hS q 1 (gx_wA hq) rfl (gin_in h1) hd (fun H1 locs1 hP1 hD1 hS1 => ?_)
  have e : (gx_w lay Ω.1 Ω.2.1 v).set q (Ω.1 q, .inl (Ω.2.1 1, N, .inr (.inl (vp_updL (v.2 q) i.toNatClampNeg x)))) = gx_w lay Ω.1 Ω.2.1 (sL v q i.toNatClampNeg x) := by
    rw [← gx_wS (v := v) (v' := sL v q i.toNatClampNeg x) hq (fun _ _ => rfl) (fun a ha => if_neg ha)]
    show _ = (gx_w lay Ω.1 Ω.2.1 v).set q (Ω.1 q, .inl (Ω.2.1 1, N, .inr (.inl ((sL v q i.toNatClampNeg x).2 q))))
    rw [show (sL v q i.toNatClampNeg x).2 q = vp_updL (v.2 q) i.toNatClampNeg x from if_pos rfl]
  rw [e] at hP1 hD1
  exact k _ h2 H1 locs1 ls hP1 hD1 hS1 hl
theorem gi_ilen (hX : gx_X Γ Ω cc own nL ret) {q N : Nat} (hq : lay[q]? = some (gk_i N)) (hd : decode cc pc = .ok (.arraylength, 1)) (hn : pc + 1 = n) (k : gx_G Γ Ω lay Q nL v n lv (.int (nI N) :: st)) : gx_G Γ Ω lay Q nL v pc lv (.ref (Ω.1 q) :: st) := by
  subst hn
  exact fun H locs ls hP hD hS hl => va_alen hX.1 hX.2.1 hX.2.2.2.2.2.1.1 hP q 0 (gx_wA hq) rfl rfl hd (k H locs ls hP hD hS hl)
theorem gi_rlen (hX : gx_X Γ Ω cc own nL ret) {q t N : Nat} {Ls : List Nat} (hq : lay[q]? = some (gk_r t Ls)) (ht : Nat.blt t 6 = true) (hN : Ls.length = N) (hd : decode cc pc = .ok (.arraylength, 1)) (hn : pc + 1 = n) (k : gx_G Γ Ω lay Q nL v n lv (.int (nI N) :: st)) : gx_G Γ Ω lay Q nL v pc lv (.ref (Ω.1 q) :: st) := by
  subst hn
  subst hN
  have h6 : t < 6 := Nat.le_of_ble_eq_true ht
  have hty : ∃ y0, (gx_tys Ω.2.1)[t]? = some (Ω.2.1 t, y0) := by
    rcases (show t = 0 ∨ t = 1 ∨ t = 2 ∨ t = 3 ∨ t = 4 ∨ t = 5 by omega) with rfl | rfl | rfl | rfl | rfl | rfl <;> exact ⟨_, rfl⟩
  obtain ⟨y0, hy0⟩ := hty
  exact fun H locs ls hP hD hS hl => va_alen hX.1 hX.2.1 hX.2.2.2.2.2.1.1 hP q t (gx_wA hq) hy0 rfl hd (k H locs ls hP hD hS hl)
theorem gi_aald (hX : gx_X Γ Ω cc own nL ret) {q t : Nat} {Ls : List Nat} {i : Int32} {ρ : Type} {ok : Nat → Bool} {E : Nat → Option ρ} {res : ρ} (hq : lay[q]? = some (gk_r t Ls)) (ht : t = 2 ∨ t = 3 ∨ t = 4 ∨ t = 5) (hd : decode cc pc = .ok (.aaload, 1)) (hn : pc + 1 = n) (h : ga i Ls ok E = some res) (k : ∀ r : Nat, ok r = true → E r = some res → gx_G Γ Ω lay Q nL v n lv (.ref (Ω.1 r) :: st)) : gx_G Γ Ω lay Q nL v pc lv (.int i :: .ref (Ω.1 q) :: st) := by
  subst hn
  obtain ⟨h1, h2⟩ := if_some h
  obtain ⟨h3, h4⟩ := if_some h2
  have hin := gin_in h1
  have hlt : i.toNatClampNeg < Ls.length := Nat.not_le.mp fun q => hin (Or.inr q)
  have hty : ∃ y0, (gx_tys Ω.2.1)[t]? = some (Ω.2.1 t, y0) ∧ refKind y0 = true := by
    rcases ht with rfl | rfl | rfl | rfl <;> exact ⟨_, rfl, rfl⟩
  obtain ⟨y0, hy0, hy1⟩ := hty
  have hf : va_rf ((Ls[i.toNatClampNeg]?).map Ω.1) = .ref (Ω.1 (Ls.getD i.toNatClampNeg 0)) := by
    rw [List.getD_eq_getElem?_getD, List.getElem?_eq_getElem hlt]
    rfl
  intro H locs ls hP hD hS hl
  refine W.aald (v := .ref (Ω.1 (Ls.getD i.toNatClampNeg 0))) (ty := y0) hX.1 hX.2.1 (hP q _ (gx_wA hq)) ((hX.2.2.2.2.2.1.1.2 t _ hy0).1 Ls.length (fun j => va_rf ((Ls[j]?).map Ω.1))) hy1 (fun q => by cases q) (by show ¬ (i < 0 ∨ (arrV _ _ _).slots.size ≤ _); rw [arrV_size]; exact hin) (by show (arrV _ _ _).slots[_]? = _; rw [arrV_read _ _ hlt, hf]) rfl rfl hd (k _ h3 h4 H locs ls hP hD hS hl)
theorem gi_copy (hX : gx_X Γ Ω cc own nL ret) {d q0 q1 n0 n1 idx : Nat} {sp dp m0 : Int32} {ρ : Type} {E : gV → Option ρ} {res : ρ} (hq0 : lay[q0]? = some (gk_i n0)) (hq1 : lay[q1]? = some (gk_i n1)) (hw : Cond.methodLink own idx arraycopyName ∈ gU) (hw1 : Cond.native arraycopyName ∈ gU) (hw2 : Cond.static arraycopyName ∈ gU) (hw3 : Cond.initialized "java/lang/System" ∈ gU) (hR : Γ.2.2.2.1 = gx_R (d + 1)) (hst0 : Nat.ble (st.map fun v => v.category).sum 8 = true) (hd : decode cc pc = .ok (.invokestatic idx, 3)) (hn : pc + 3 = n) (h : (if gcp sp dp m0 n0 n1 = true then bd (sA v q1 (va_cpy (v.1 q0) (v.1 q1) sp.toNatClampNeg dp.toNatClampNeg m0.toNatClampNeg)) E else none) = some res) (k : ∀ v1 : gV, E v1 = some res → gx_G Γ Ω lay Q nL v1 n lv st) : gx_G Γ Ω lay Q nL v pc lv (.int m0 :: .int dp :: .ref (Ω.1 q1) :: .int sp :: .ref (Ω.1 q0) :: st) := by
  subst hn
  obtain ⟨h1, h2⟩ := if_some h
  obtain ⟨g1, g2, g3, g4, g5⟩ := of_decide_eq_true h1
  have nn : ∀ z : Int32, 0 ≤ z.toInt → ¬ z < 0 ∧ (z.toNatClampNeg : Int) = z.toInt := fun z hz => ⟨fun q => by rw [Int32.lt_iff_toInt_lt] at q; exact absurd q (Int.not_lt.mpr hz), by rw [Int32.toNatClampNeg]; omega⟩
  intro H locs ls hP hD hS hl
  have hst : (st.map fun v => v.category).sum ≤ 8 := Nat.le_of_ble_eq_true hst0
  have hfr : 1 ≤ Γ.2.2.2.1.frames := by
    rw [hR]
    exact Nat.succ_le_succ (Nat.zero_le _)
  have hlo : (st.map fun v => v.category).sum + (nativeFrameWords "java/lang/System" "arraycopy" 5 + 11) ≤ Γ.2.2.2.1.locals := by
    rw [hR]
    have e9 : nativeFrameWords "java/lang/System" "arraycopy" 5 ≤ 13 := by decide +kernel
    show _ + (_ + 11) ≤ 40 * (d + 1)
    omega
  refine va_copyi hX.1 hX.2.1 (hX.2.2.1.trans hl.1.symm) hX.2.2.2.1 (hX.2.2.2.2.1 _ hw) (hX.2.2.2.2.1 _ hw1) (hX.2.2.2.2.1 _ hw2) (hX.2.2.2.2.1 _ hw3) hX.2.2.2.2.2.1.1 hP hD hS q0 q1 0 0 (gx_wA hq0) (gx_wA hq1) rfl rfl rfl (nn sp g1).1 (nn dp g2).1 (nn m0 g3).1 (by have := (nn sp g1).2; have := (nn m0 g3).2; omega) (by have := (nn dp g2).2; have := (nn m0 g3).2; omega) (fun _ _ => rfl) hfr hlo hd (fun H1 locs1 hP1 hD1 hS1 => ?_)
  have e : (gx_w lay Ω.1 Ω.2.1 v).set q1 (Ω.1 q1, .inl (Ω.2.1 0, n1, .inl (va_cpy (v.1 q0) (v.1 q1) sp.toNatClampNeg dp.toNatClampNeg m0.toNatClampNeg))) = gx_w lay Ω.1 Ω.2.1 (sA v q1 (va_cpy (v.1 q0) (v.1 q1) sp.toNatClampNeg dp.toNatClampNeg m0.toNatClampNeg)) := by
    generalize va_cpy (v.1 q0) (v.1 q1) sp.toNatClampNeg dp.toNatClampNeg m0.toNatClampNeg = f
    rw [← gx_wS (v := v) (v' := sA v q1 f) hq1 (fun a ha => if_neg ha) (fun _ _ => rfl)]
    show _ = (gx_w lay Ω.1 Ω.2.1 v).set q1 (Ω.1 q1, .inl (Ω.2.1 0, n1, .inl ((sA v q1 f).1 q1)))
    rw [show (sA v q1 f).1 q1 = f from if_pos rfl]
  rw [e] at hP1 hD1
  exact k _ h2 H1 locs1 ls hP1 hD1 hS1 hl
theorem gi_iret (hX : gx_X Γ Ω cc own nL ret) {x r : Int32} {v' : gV} (hr : ret = some .int) (hd : decode cc pc = .ok (.ireturn, 1)) (h : some (x, v) = some (r, v')) : gx_G Γ Ω lay (gx_Q Γ Ω lay (some (.int r)) v') nL v pc lv [.int x] := by
  subst hr
  cases h
  intro H locs ls hP hD hS hl
  exact W.iret hX.1 hX.2.1 hX.2.2.2.2.2.2.1 (fun t ht hW => ⟨rfl, by rw [ht]; exact hP, hS.F ht⟩) hS.2.2 hd hX.2.2.2.2.2.2.2
theorem gi_lret (hX : gx_X Γ Ω cc own nL ret) {x r : Int64} {v' : gV} (hr : ret = some .long) (hd : decode cc pc = .ok (.lreturn, 1)) (h : some (x, v) = some (r, v')) : gx_G Γ Ω lay (gx_Q Γ Ω lay (some (.long r)) v') nL v pc lv [.long x] := by
  subst hr
  cases h
  intro H locs ls hP hD hS hl
  exact W.lret hX.1 hX.2.1 hX.2.2.2.2.2.2.1 (fun t ht hW => ⟨rfl, by rw [ht]; exact hP, hS.F ht⟩) hS.2.2 hd hX.2.2.2.2.2.2.2
def gbo (x : Int32) : Bool := decide (x = 0 ∨ x = 1)
theorem gi_zret (hX : gx_X Γ Ω cc own nL ret) {x r : Int32} {v' : gV} (hr : ret = some .boolean) (hd : decode cc pc = .ok (.ireturn, 1)) (h : (if gbo x = true then some (x, v) else none) = some (r, v')) : gx_G Γ Ω lay (gx_Q Γ Ω lay (some (.int r)) v') nL v pc lv [.int x] := by
  subst hr
  obtain ⟨h1, h2⟩ := if_some h
  cases h2
  have hn : narrow .boolean (.int x) = .int x := by
    rcases of_decide_eq_true h1 with rfl | rfl <;> rfl
  intro H locs ls hP hD hS hl
  exact W.zret hX.1 hX.2.1 hX.2.2.2.2.2.2.1 hn (fun t ht hW => ⟨rfl, by rw [ht]; exact hP, hS.F ht⟩) hS.2.2 hd hX.2.2.2.2.2.2.2
theorem gi_vret (hX : gx_X Γ Ω cc own nL ret) {v' : gV} (hr : ret = none) (hd : decode cc pc = .ok (.return_, 1)) (h : some v = some v') : gx_G Γ Ω lay (gx_Q Γ Ω lay none v') nL v pc lv [] := by
  subst hr
  cases h
  intro H locs ls hP hD hS hl
  exact W.vret hX.1 hX.2.1 hX.2.2.2.2.2.2.1 (fun t ht hW => ⟨rfl, by rw [ht]; exact hP, hS.F ht⟩) hS.2.2 hd hX.2.2.2.2.2.2.2
theorem gi_aret (hX : gx_X Γ Ω cc own nL ret) {r q : Nat} {v' : gV} {C : String} (hr : ret = some (.object C)) (hd : decode cc pc = .ok (.areturn, 1)) (h : some (q, v) = some (r, v')) : gx_G Γ Ω lay (gx_Q Γ Ω lay (some (.ref (Ω.1 r))) v') nL v pc lv [.ref (Ω.1 q)] := by
  subst hr
  cases h
  intro H locs ls hP hD hS hl
  exact W.aret hX.1 hX.2.1 hX.2.2.2.2.2.2.1 (Or.inl ⟨C, rfl⟩) (Or.inr ⟨_, rfl⟩) (fun t ht hW => ⟨rfl, by rw [ht]; exact hP, hS.F ht⟩) hS.2.2 hd hX.2.2.2.2.2.2.2
end GX
theorem gx_good : GoodIn gU gU := fun _ h => ⟨h, good_of_word (List.mem_filter.mp h).2⟩
theorem gx_goodC {y : MethodName} {cc : ByteArray} {maxL : Nat} {ret : Option FieldType} (h : Cond.code y cc maxL ret ∈ gU) : GoodIn gU (.code y cc maxL ret :: gU) := by
  intro w hw
  rcases List.mem_cons.mp hw with rfl | hw
  · exact gx_good _ h
  · exact gx_good _ hw
/-- what the tables say of a method: an instance's, a static one -/
def gx_mv (C : String) (y : MethodName) (cc : ByteArray) (maxL : Nat) (ret : Option FieldType) (k : Nat) : Prop := Cond.instanceMethod y ∈ gU ∧ Cond.selects C y y ∈ gU ∧ Cond.initialized C ∈ gU ∧ Cond.code y cc maxL ret ∈ gU ∧ (y.cls = C ∧ y.cls ≠ "java/lang/invoke/MethodHandle" ∧ y.cls ≠ "java/lang/invoke/VarHandle" ∧ (parseMethodDescriptor y.desc).map (fun d => d.parameters.length) = some k)
def gx_ms (y : MethodName) (cc : ByteArray) (maxL : Nat) (ret : Option FieldType) (k : Nat) : Prop := Cond.static y ∈ gU ∧ Cond.initialized y.cls ∈ gU ∧ Cond.code y cc maxL ret ∈ gU ∧ (y.cls ≠ "java/lang/invoke/MethodHandle" ∧ y.cls ≠ "java/lang/invoke/VarHandle" ∧ (parseMethodDescriptor y.desc).map (fun d => d.parameters.length) = some k)
theorem gx_mv_words {own C : String} {idx : Nat} {y : MethodName} {cc : ByteArray} {maxL k : Nat} {ret : Option FieldType} (h : gx_mv C y cc maxL ret k) (hl : Cond.methodLink own idx y ∈ gU) : GoodIn gU (wsV own idx C y (.code y cc maxL ret :: gU)) := by
  intro w hw
  rcases List.mem_append.mp hw with hw | hw
  · have hm : w ∈ gU := by
      simp only [List.mem_cons, List.not_mem_nil, or_false] at hw
      rcases hw with rfl | rfl | rfl | rfl
      · exact hl
      · exact h.1
      · exact h.2.1
      · exact h.2.2.1
    exact gx_good _ hm
  · exact gx_goodC h.2.2.2.1 _ hw
theorem gx_blind {Ω : gO} {lay : List gk} {av : List Value} {v : gV} : FrameBlind (gx_Pc Ω lay av v) := fun a U g mk h => ⟨h.1, h.2.1, h.2.2.1, h.2.2.2.calling g mk a⟩
section GXC
variable {Γ : gC} {Ω : gO} {lay : List gk} {Q : State → Prop} {nL : Nat} {v : gV} {pc n : Nat} {lv : List (Nat × Value)} {st : List Value} {cc : ByteArray} {own : String} {ret : Option FieldType}
/-- what a call's run is, whatever its kind -/
def gx_Run (Γ : gC) (Ω : gO) (lay : List gk) (v : gV) (pc : Nat) (ls : Array Slot) (st0 rest : List Value) (a : Array Value) (H : Heap) (locs : List Loc) (rv : Option Value) (v1 : gV) : Prop := va_Run Γ.1 Γ.2.1 Γ.2.2.1 Γ.2.2.2.1 Γ.2.2.2.2.1 Γ.2.2.2.2.2.1 Γ.2.2.2.2.2.2.1 Γ.2.2.2.2.2.2.2.1 Γ.2.2.2.2.2.2.2.2.1 Γ.2.2.2.2.2.2.2.2.2 H locs 0 0 0 0 (F0 Γ.2.2.2.2.2.1 pc ls st0) rest (gx_Qc Ω lay rv v1 a) Ω.2.2.2
theorem gx_after {rv : Option Value} {v1 : gV} {a : Array Value} {st0 rest : List Value} {H : Heap} {locs : List Loc} {ls : Array Slot} (hr : gx_Run Γ Ω lay v pc ls st0 rest a H locs rv v1) (hD : va_D Ω.2.2.2 (gx_w lay Ω.1 Ω.2.1 v)) (hS : va_S Ω.2.2.2 Γ.2.2.2.2.1.heap H locs) (hl : lv_has ls nL lv) (k : gx_G Γ Ω lay Q nL v1 (pc + 3) lv (rv.toList ++ rest)) : gx_W Γ H locs Q (F0 Γ.2.2.2.2.2.1 pc ls st0) := by
  intro T hT X
  obtain ⟨w, st₀, t, T', L, h0, X', hL, e1, e2, ⟨hv, hP1, hz, hk⟩, stp⟩ := hr T hT X
  cases hv
  rw [h0] at hz hk
  obtain ⟨t2, a1, b1⟩ := k T'.heap (locs ++ L) ls (by rw [e1]; exact hP1) (gx_D hD)
    ⟨Nat.le_trans hS.1 (by rw [e1]; exact hz), fun q h1 h2 => by rw [e1, hk q (Nat.lt_of_lt_of_le h1 hS.1) h2]; exact hS.2.1 q h1 h2, fun q hq => by
      rcases List.mem_append.mp hq with h | h
      · exact hS.2.2 q h
      · exact hL q h⟩ hl T' rfl X'
  exact ⟨t2, stp t2 a1, b1⟩
theorem gi_virt (hX : gx_X Γ Ω cc own nL ret) {C : String} {T : u_T} {N ci q idx d d' maxL k0 : Nat} {t0 : Nat → FieldType} {tm : List (Option Nat)} {y : MethodName} {cy : ByteArray} {rt : Option FieldType} {As : List Value} {rv : Option Value} {v1 : gV} (hR : Γ.2.2.2.1 = gx_R d) (hc : gx_c ci C T N t0) (hq : lay[q]? = some (gk_o ci tm)) (hm : gx_mv C y cy maxL rt k0) (hw : Cond.methodLink own idx y ∈ gU) (hM : gx_M Γ.2.1 Ω lay y cy maxL rt d' (.ref (Ω.1 q) :: As) v rv v1) (hk : As.length = k0) (hdd : Nat.ble (d' + 1) d = true ∧ Nat.ble maxL 21 = true) (hst : Nat.ble (st.map fun v => v.category).sum 8 = true) (hd : decode cc pc = .ok (.invokevirtual idx, 3)) (hn : pc + 3 = n) {st0 : List Value} (hst0 : st0 = As.reverse ++ .ref (Ω.1 q) :: st) (k : gx_G Γ Ω lay Q nL v1 n lv (rv.toList ++ st)) : gx_G Γ Ω lay Q nL v pc lv st0 := by
  subst hn
  subst hst0
  intro H locs ls hP hD hS hl
  have h1 : d' + 1 ≤ d := Nat.le_of_ble_eq_true hdd.1
  have h2 : maxL ≤ 21 := Nat.le_of_ble_eq_true hdd.2
  refine gx_after (rest := st) (a := (Value.ref (Ω.1 q) :: As).toArray) (va_runV (nL := nL) ⟨hX.1, hX.2.1, hX.2.2.1, hX.2.2.2.1, hX.2.2.2.2.1⟩ hM (cwV k0 hX.2.2.2.2.1 (gx_mv_words hm hw) rfl rfl rfl hm.2.2.2.2 ⟨by rw [hR]; exact h1, by rw [hR]; show 8 + (maxL + 11) + 40 * d' ≤ 40 * d; omega⟩) ⟨gx_blind, va_recv hX.2.2.2.2.2.1.1 hP hc.1 (gx_wA hq), fun U hU hW => ⟨rfl, by rw [hU]; exact hP, hD, hX.2.2.2.2.2.1.warm hW⟩⟩ rfl hk hl.1 rfl (lv_room (Nat.le_of_ble_eq_true hst)) hd ⟨by rw [hR]; exact Nat.le_refl 0, by rw [hR]; exact Nat.le_refl 0⟩) hD hS hl k
theorem gi_stat (hX : gx_X Γ Ω cc own nL ret) {idx d d' maxL k0 : Nat} {y : MethodName} {cy : ByteArray} {rt : Option FieldType} {As : List Value} {rv : Option Value} {v1 : gV} (hR : Γ.2.2.2.1 = gx_R d) (hm : gx_ms y cy maxL rt k0) (hw : Cond.methodLink own idx y ∈ gU) (hM : gx_M Γ.2.1 Ω lay y cy maxL rt d' As v rv v1) (hk : As.length = k0) (hdd : Nat.ble (d' + 1) d = true ∧ Nat.ble maxL 21 = true) (hst : Nat.ble (st.map fun v => v.category).sum 8 = true) (hd : decode cc pc = .ok (.invokestatic idx, 3)) (hn : pc + 3 = n) {st0 : List Value} (hst0 : st0 = As.reverse ++ st) (k : gx_G Γ Ω lay Q nL v1 n lv (rv.toList ++ st)) : gx_G Γ Ω lay Q nL v pc lv st0 := by
  subst hn
  subst hst0
  intro H locs ls hP hD hS hl
  have h1 : d' + 1 ≤ d := Nat.le_of_ble_eq_true hdd.1
  have h2 : maxL ≤ 21 := Nat.le_of_ble_eq_true hdd.2
  refine gx_after (rest := st) (a := As.toArray) (va_runS (nL := nL) ⟨hX.1, hX.2.1, hX.2.2.1, hX.2.2.2.1, hX.2.2.2.2.1⟩ hM ⟨callB_of k0 hX.2.2.2.2.1 (gx_goodC hm.2.2.1) rfl rfl rfl (hX.2.2.2.2.1 _ hm.2.1) (hX.2.2.2.2.1 _ hw) hm.2.2.2 ⟨by rw [hR]; exact h1, by rw [hR]; show 8 + (maxL + 11) + 40 * d' ≤ 40 * d; omega⟩, hX.2.2.2.2.1 _ hm.1⟩ ⟨gx_blind, fun U hU hW => ⟨rfl, by rw [hU]; exact hP, hD, hX.2.2.2.2.2.1.warm hW⟩⟩ rfl hk hl.1 rfl (lv_room (Nat.le_of_ble_eq_true hst)) hd ⟨by rw [hR]; exact Nat.le_refl 0, by rw [hR]; exact Nat.le_refl 0⟩) hD hS hl k
theorem gi_statN (hX : gx_X Γ Ω cc own nL ret) {idx d d' maxL k0 : Nat} {host : String} {y : MethodName} {cy : ByteArray} {rt : Option FieldType} {As : List Value} {rv : Option Value} {v1 : gV} (hR : Γ.2.2.2.1 = gx_R d) (hm : gx_ms y cy maxL rt k0) (hw : va_Nw (.methodLinkNest own idx y host) Γ.2.2.2.2.1) (hM : gx_M Γ.2.1 Ω lay y cy maxL rt d' As v rv v1) (hk : As.length = k0) (hdd : Nat.ble (d' + 1) d = true ∧ Nat.ble maxL 21 = true) (hst : Nat.ble (st.map fun v => v.category).sum 8 = true) (hd : decode cc pc = .ok (.invokestatic idx, 3)) (hn : pc + 3 = n) {st0 : List Value} (hst0 : st0 = As.reverse ++ st) (k : gx_G Γ Ω lay Q nL v1 n lv (rv.toList ++ st)) : gx_G Γ Ω lay Q nL v pc lv st0 := by
  subst hn
  subst hst0
  intro H locs ls hP hD hS hl
  have h1 : d' + 1 ≤ d := Nat.le_of_ble_eq_true hdd.1
  have h2 : maxL ≤ 21 := Nat.le_of_ble_eq_true hdd.2
  refine gx_after (rest := st) (a := As.toArray) (va_runSN (nL := nL) ⟨hX.1, hX.2.1, hX.2.2.1, hX.2.2.2.1, hX.2.2.2.2.1⟩ hM ⟨va_cnB k0 hX.2.2.2.2.1 (gx_goodC hm.2.2.1) rfl rfl rfl hw (hX.2.2.2.2.1 _ hm.2.1) hm.2.2.2 ⟨by rw [hR]; exact h1, by rw [hR]; show 8 + (maxL + 11) + 40 * d' ≤ 40 * d; omega⟩, hX.2.2.2.2.1 _ hm.1, trivial⟩ ⟨gx_blind, fun U hU hW => ⟨rfl, by rw [hU]; exact hP, hD, hX.2.2.2.2.2.1.warm hW⟩⟩ rfl hk hl.1 rfl (lv_room (Nat.le_of_ble_eq_true hst)) hd ⟨by rw [hR]; exact Nat.le_refl 0, by rw [hR]; exact Nat.le_refl 0⟩) hD hS hl k
theorem bi_some {ρ : Type} {o : Option (Int32 × gV)} {k : Int32 → gV → Option ρ} {r : ρ} (h : bi o k = some r) : ∃ x v, o = some (x, v) ∧ k x v = some r := by
  cases o with
  | none => cases h
  | some a => exact ⟨a.1, a.2, rfl, h⟩
theorem bj_some {ρ : Type} {o : Option (Int64 × gV)} {k : Int64 → gV → Option ρ} {r : ρ} (h : bj o k = some r) : ∃ x v, o = some (x, v) ∧ k x v = some r := by
  cases o with
  | none => cases h
  | some a => exact ⟨a.1, a.2, rfl, h⟩
theorem br_some {ρ : Type} {o : Option (Nat × gV)} {ok : Nat → Bool} {k : Nat → gV → Option ρ} {r : ρ} (h : br o ok k = some r) : ∃ x v, o = some (x, v) ∧ ok x = true ∧ k x v = some r := by
  cases o with
  | none => cases h
  | some a => exact ⟨a.1, a.2, rfl, (if_some h).1, (if_some h).2⟩
theorem bv_some {ρ : Type} {o : Option gV} {k : gV → Option ρ} {r : ρ} (h : bv o k = some r) : ∃ v, o = some v ∧ k v = some r := by
  cases o with
  | none => cases h
  | some a => exact ⟨a, rfl, h⟩
end GXC
end
section
theorem dX0_init_0 : decode cX0_init 0 = .ok (.aload_n 0, 1) := by decide +kernel
theorem dX0_init_1 : decode cX0_init 1 = .ok (.invokespecial 3, 3) := by decide +kernel
theorem dX0_init_4 : decode cX0_init 4 = .ok (.aload_n 0, 1) := by decide +kernel
theorem dX0_init_5 : decode cX0_init 5 = .ok (.bipush 29, 2) := by decide +kernel
theorem dX0_init_7 : decode cX0_init 7 = .ok (.newarray .int, 2) := by decide +kernel
theorem dX0_init_9 : decode cX0_init 9 = .ok (.putfield 9, 3) := by decide +kernel
theorem dX0_init_12 : decode cX0_init 12 = .ok (.return_, 1) := by decide +kernel
theorem dX0_become_0 : decode cX0_become 0 = .ok (.aload_n 1, 1) := by decide +kernel
theorem dX0_become_1 : decode cX0_become 1 = .ok (.getfield 9, 3) := by decide +kernel
theorem dX0_become_4 : decode cX0_become 4 = .ok (.iconst 0, 1) := by decide +kernel
theorem dX0_become_5 : decode cX0_become 5 = .ok (.aload_n 0, 1) := by decide +kernel
theorem dX0_become_6 : decode cX0_become 6 = .ok (.getfield 9, 3) := by decide +kernel
theorem dX0_become_9 : decode cX0_become 9 = .ok (.iconst 0, 1) := by decide +kernel
theorem dX0_become_10 : decode cX0_become 10 = .ok (.aload_n 1, 1) := by decide +kernel
theorem dX0_become_11 : decode cX0_become 11 = .ok (.getfield 15, 3) := by decide +kernel
theorem dX0_become_14 : decode cX0_become 14 = .ok (.invokestatic 19, 3) := by decide +kernel
theorem dX0_become_17 : decode cX0_become 17 = .ok (.aload_n 0, 1) := by decide +kernel
theorem dX0_become_18 : decode cX0_become 18 = .ok (.aload_n 1, 1) := by decide +kernel
theorem dX0_become_19 : decode cX0_become 19 = .ok (.getfield 15, 3) := by decide +kernel
theorem dX0_become_22 : decode cX0_become 22 = .ok (.putfield 15, 3) := by decide +kernel
theorem dX0_become_25 : decode cX0_become 25 = .ok (.return_, 1) := by decide +kernel
theorem dX0_putAtBottom_0 : decode cX0_putAtBottom 0 = .ok (.aload_n 0, 1) := by decide +kernel
theorem dX0_putAtBottom_1 : decode cX0_putAtBottom 1 = .ok (.getfield 15, 3) := by decide +kernel
theorem dX0_putAtBottom_4 : decode cX0_putAtBottom 4 = .ok (.aload_n 0, 1) := by decide +kernel
theorem dX0_putAtBottom_5 : decode cX0_putAtBottom 5 = .ok (.getfield 9, 3) := by decide +kernel
theorem dX0_putAtBottom_8 : decode cX0_putAtBottom 8 = .ok (.arraylength, 1) := by decide +kernel
theorem dX0_putAtBottom_9 : decode cX0_putAtBottom 9 = .ok (.if_icmp .ge 23, 3) := by decide +kernel
theorem dX0_putAtBottom_12 : decode cX0_putAtBottom 12 = .ok (.aload_n 0, 1) := by decide +kernel
theorem dX0_putAtBottom_13 : decode cX0_putAtBottom 13 = .ok (.getfield 9, 3) := by decide +kernel
theorem dX0_putAtBottom_16 : decode cX0_putAtBottom 16 = .ok (.aload_n 0, 1) := by decide +kernel
theorem dX0_putAtBottom_17 : decode cX0_putAtBottom 17 = .ok (.getfield 15, 3) := by decide +kernel
theorem dX0_putAtBottom_20 : decode cX0_putAtBottom 20 = .ok (.iload_n 1, 1) := by decide +kernel
theorem dX0_putAtBottom_21 : decode cX0_putAtBottom 21 = .ok (.iastore, 1) := by decide +kernel
theorem dX0_putAtBottom_22 : decode cX0_putAtBottom 22 = .ok (.aload_n 0, 1) := by decide +kernel
theorem dX0_putAtBottom_23 : decode cX0_putAtBottom 23 = .ok (.dup, 1) := by decide +kernel
theorem dX0_putAtBottom_24 : decode cX0_putAtBottom 24 = .ok (.getfield 15, 3) := by decide +kernel
theorem dX0_putAtBottom_27 : decode cX0_putAtBottom 27 = .ok (.iconst 1, 1) := by decide +kernel
theorem dX0_putAtBottom_28 : decode cX0_putAtBottom 28 = .ok (.iadd, 1) := by decide +kernel
theorem dX0_putAtBottom_29 : decode cX0_putAtBottom 29 = .ok (.putfield 15, 3) := by decide +kernel
theorem dX0_putAtBottom_32 : decode cX0_putAtBottom 32 = .ok (.return_, 1) := by decide +kernel
theorem dX0_putOnTop_0 : decode cX0_putOnTop 0 = .ok (.aload_n 0, 1) := by decide +kernel
theorem dX0_putOnTop_1 : decode cX0_putOnTop 1 = .ok (.getfield 15, 3) := by decide +kernel
theorem dX0_putOnTop_4 : decode cX0_putOnTop 4 = .ok (.aload_n 0, 1) := by decide +kernel
theorem dX0_putOnTop_5 : decode cX0_putOnTop 5 = .ok (.getfield 9, 3) := by decide +kernel
theorem dX0_putOnTop_8 : decode cX0_putOnTop 8 = .ok (.arraylength, 1) := by decide +kernel
theorem dX0_putOnTop_9 : decode cX0_putOnTop 9 = .ok (.if_icmp .ge 37, 3) := by decide +kernel
theorem dX0_putOnTop_12 : decode cX0_putOnTop 12 = .ok (.aload_n 0, 1) := by decide +kernel
theorem dX0_putOnTop_13 : decode cX0_putOnTop 13 = .ok (.getfield 9, 3) := by decide +kernel
theorem dX0_putOnTop_16 : decode cX0_putOnTop 16 = .ok (.iconst 0, 1) := by decide +kernel
theorem dX0_putOnTop_17 : decode cX0_putOnTop 17 = .ok (.aload_n 0, 1) := by decide +kernel
theorem dX0_putOnTop_18 : decode cX0_putOnTop 18 = .ok (.getfield 9, 3) := by decide +kernel
theorem dX0_putOnTop_21 : decode cX0_putOnTop 21 = .ok (.iconst 1, 1) := by decide +kernel
theorem dX0_putOnTop_22 : decode cX0_putOnTop 22 = .ok (.aload_n 0, 1) := by decide +kernel
theorem dX0_putOnTop_23 : decode cX0_putOnTop 23 = .ok (.getfield 15, 3) := by decide +kernel
theorem dX0_putOnTop_26 : decode cX0_putOnTop 26 = .ok (.invokestatic 19, 3) := by decide +kernel
theorem dX0_putOnTop_29 : decode cX0_putOnTop 29 = .ok (.aload_n 0, 1) := by decide +kernel
theorem dX0_putOnTop_30 : decode cX0_putOnTop 30 = .ok (.getfield 9, 3) := by decide +kernel
theorem dX0_putOnTop_33 : decode cX0_putOnTop 33 = .ok (.iconst 0, 1) := by decide +kernel
theorem dX0_putOnTop_34 : decode cX0_putOnTop 34 = .ok (.iload_n 1, 1) := by decide +kernel
theorem dX0_putOnTop_35 : decode cX0_putOnTop 35 = .ok (.iastore, 1) := by decide +kernel
theorem dX0_putOnTop_36 : decode cX0_putOnTop 36 = .ok (.aload_n 0, 1) := by decide +kernel
theorem dX0_putOnTop_37 : decode cX0_putOnTop 37 = .ok (.dup, 1) := by decide +kernel
theorem dX0_putOnTop_38 : decode cX0_putOnTop 38 = .ok (.getfield 15, 3) := by decide +kernel
theorem dX0_putOnTop_41 : decode cX0_putOnTop 41 = .ok (.iconst 1, 1) := by decide +kernel
theorem dX0_putOnTop_42 : decode cX0_putOnTop 42 = .ok (.iadd, 1) := by decide +kernel
theorem dX0_putOnTop_43 : decode cX0_putOnTop 43 = .ok (.putfield 15, 3) := by decide +kernel
theorem dX0_putOnTop_46 : decode cX0_putOnTop 46 = .ok (.return_, 1) := by decide +kernel
theorem dX0_placeOf_0 : decode cX0_placeOf 0 = .ok (.iconst 0, 1) := by decide +kernel
theorem dX0_placeOf_1 : decode cX0_placeOf 1 = .ok (.istore_n 2, 1) := by decide +kernel
theorem dX0_placeOf_2 : decode cX0_placeOf 2 = .ok (.iload_n 2, 1) := by decide +kernel
theorem dX0_placeOf_3 : decode cX0_placeOf 3 = .ok (.aload_n 0, 1) := by decide +kernel
theorem dX0_placeOf_4 : decode cX0_placeOf 4 = .ok (.getfield 15, 3) := by decide +kernel
theorem dX0_placeOf_7 : decode cX0_placeOf 7 = .ok (.if_icmp .ge 21, 3) := by decide +kernel
theorem dX0_placeOf_10 : decode cX0_placeOf 10 = .ok (.aload_n 0, 1) := by decide +kernel
theorem dX0_placeOf_11 : decode cX0_placeOf 11 = .ok (.getfield 9, 3) := by decide +kernel
theorem dX0_placeOf_14 : decode cX0_placeOf 14 = .ok (.iload_n 2, 1) := by decide +kernel
theorem dX0_placeOf_15 : decode cX0_placeOf 15 = .ok (.iaload, 1) := by decide +kernel
theorem dX0_placeOf_16 : decode cX0_placeOf 16 = .ok (.iload_n 1, 1) := by decide +kernel
theorem dX0_placeOf_17 : decode cX0_placeOf 17 = .ok (.if_icmp .ne 5, 3) := by decide +kernel
theorem dX0_placeOf_20 : decode cX0_placeOf 20 = .ok (.iload_n 2, 1) := by decide +kernel
theorem dX0_placeOf_21 : decode cX0_placeOf 21 = .ok (.ireturn, 1) := by decide +kernel
theorem dX0_placeOf_22 : decode cX0_placeOf 22 = .ok (.iinc 2 1, 3) := by decide +kernel
theorem dX0_placeOf_25 : decode cX0_placeOf 25 = .ok (.goto (-23), 3) := by decide +kernel
theorem dX0_placeOf_28 : decode cX0_placeOf 28 = .ok (.iconst (-1), 1) := by decide +kernel
theorem dX0_placeOf_29 : decode cX0_placeOf 29 = .ok (.ireturn, 1) := by decide +kernel
theorem dX0_takeOut_0 : decode cX0_takeOut 0 = .ok (.iload_n 1, 1) := by decide +kernel
theorem dX0_takeOut_1 : decode cX0_takeOut 1 = .ok (.ifCond .lt 51, 3) := by decide +kernel
theorem dX0_takeOut_4 : decode cX0_takeOut 4 = .ok (.iload_n 1, 1) := by decide +kernel
theorem dX0_takeOut_5 : decode cX0_takeOut 5 = .ok (.aload_n 0, 1) := by decide +kernel
theorem dX0_takeOut_6 : decode cX0_takeOut 6 = .ok (.getfield 15, 3) := by decide +kernel
theorem dX0_takeOut_9 : decode cX0_takeOut 9 = .ok (.if_icmp .ge 43, 3) := by decide +kernel
theorem dX0_takeOut_12 : decode cX0_takeOut 12 = .ok (.aload_n 0, 1) := by decide +kernel
theorem dX0_takeOut_13 : decode cX0_takeOut 13 = .ok (.dup, 1) := by decide +kernel
theorem dX0_takeOut_14 : decode cX0_takeOut 14 = .ok (.getfield 15, 3) := by decide +kernel
theorem dX0_takeOut_17 : decode cX0_takeOut 17 = .ok (.iconst 1, 1) := by decide +kernel
theorem dX0_takeOut_18 : decode cX0_takeOut 18 = .ok (.isub, 1) := by decide +kernel
theorem dX0_takeOut_19 : decode cX0_takeOut 19 = .ok (.putfield 15, 3) := by decide +kernel
theorem dX0_takeOut_22 : decode cX0_takeOut 22 = .ok (.iload_n 1, 1) := by decide +kernel
theorem dX0_takeOut_23 : decode cX0_takeOut 23 = .ok (.istore_n 2, 1) := by decide +kernel
theorem dX0_takeOut_24 : decode cX0_takeOut 24 = .ok (.iload_n 2, 1) := by decide +kernel
theorem dX0_takeOut_25 : decode cX0_takeOut 25 = .ok (.aload_n 0, 1) := by decide +kernel
theorem dX0_takeOut_26 : decode cX0_takeOut 26 = .ok (.getfield 15, 3) := by decide +kernel
theorem dX0_takeOut_29 : decode cX0_takeOut 29 = .ok (.if_icmp .ge 23, 3) := by decide +kernel
theorem dX0_takeOut_32 : decode cX0_takeOut 32 = .ok (.aload_n 0, 1) := by decide +kernel
theorem dX0_takeOut_33 : decode cX0_takeOut 33 = .ok (.getfield 9, 3) := by decide +kernel
theorem dX0_takeOut_36 : decode cX0_takeOut 36 = .ok (.iload_n 2, 1) := by decide +kernel
theorem dX0_takeOut_37 : decode cX0_takeOut 37 = .ok (.aload_n 0, 1) := by decide +kernel
theorem dX0_takeOut_38 : decode cX0_takeOut 38 = .ok (.getfield 9, 3) := by decide +kernel
theorem dX0_takeOut_41 : decode cX0_takeOut 41 = .ok (.iload_n 2, 1) := by decide +kernel
theorem dX0_takeOut_42 : decode cX0_takeOut 42 = .ok (.iconst 1, 1) := by decide +kernel
theorem dX0_takeOut_43 : decode cX0_takeOut 43 = .ok (.iadd, 1) := by decide +kernel
theorem dX0_takeOut_44 : decode cX0_takeOut 44 = .ok (.iaload, 1) := by decide +kernel
theorem dX0_takeOut_45 : decode cX0_takeOut 45 = .ok (.iastore, 1) := by decide +kernel
theorem dX0_takeOut_46 : decode cX0_takeOut 46 = .ok (.iinc 2 1, 3) := by decide +kernel
theorem dX0_takeOut_49 : decode cX0_takeOut 49 = .ok (.goto (-25), 3) := by decide +kernel
theorem dX0_takeOut_52 : decode cX0_takeOut 52 = .ok (.return_, 1) := by decide +kernel
theorem dX1_init_0 : decode cX1_init 0 = .ok (.aload_n 0, 1) := by decide +kernel
theorem dX1_init_1 : decode cX1_init 1 = .ok (.invokespecial 3, 3) := by decide +kernel
theorem dX1_init_4 : decode cX1_init 4 = .ok (.aload_n 0, 1) := by decide +kernel
theorem dX1_init_5 : decode cX1_init 5 = .ok (.bipush 8, 2) := by decide +kernel
theorem dX1_init_7 : decode cX1_init 7 = .ok (.newarray .int, 2) := by decide +kernel
theorem dX1_init_9 : decode cX1_init 9 = .ok (.putfield 9, 3) := by decide +kernel
theorem dX1_init_12 : decode cX1_init 12 = .ok (.aload_n 0, 1) := by decide +kernel
theorem dX1_init_13 : decode cX1_init 13 = .ok (.new 15, 3) := by decide +kernel
theorem dX1_init_16 : decode cX1_init 16 = .ok (.dup, 1) := by decide +kernel
theorem dX1_init_17 : decode cX1_init 17 = .ok (.invokespecial 17, 3) := by decide +kernel
theorem dX1_init_20 : decode cX1_init 20 = .ok (.putfield 18, 3) := by decide +kernel
theorem dX1_init_23 : decode cX1_init 23 = .ok (.aload_n 0, 1) := by decide +kernel
theorem dX1_init_24 : decode cX1_init 24 = .ok (.bipush 10, 2) := by decide +kernel
theorem dX1_init_26 : decode cX1_init 26 = .ok (.bipush 8, 2) := by decide +kernel
theorem dX1_init_28 : decode cX1_init 28 = .ok (.multianewarray 22 2, 4) := by decide +kernel
theorem dX1_init_32 : decode cX1_init 32 = .ok (.putfield 24, 3) := by decide +kernel
theorem dX1_init_35 : decode cX1_init 35 = .ok (.aload_n 0, 1) := by decide +kernel
theorem dX1_init_36 : decode cX1_init 36 = .ok (.bipush 10, 2) := by decide +kernel
theorem dX1_init_38 : decode cX1_init 38 = .ok (.newarray .int, 2) := by decide +kernel
theorem dX1_init_40 : decode cX1_init 40 = .ok (.putfield 27, 3) := by decide +kernel
theorem dX1_init_43 : decode cX1_init 43 = .ok (.aload_n 0, 1) := by decide +kernel
theorem dX1_init_44 : decode cX1_init 44 = .ok (.bipush 10, 2) := by decide +kernel
theorem dX1_init_46 : decode cX1_init 46 = .ok (.newarray .int, 2) := by decide +kernel
theorem dX1_init_48 : decode cX1_init 48 = .ok (.putfield 30, 3) := by decide +kernel
theorem dX1_init_51 : decode cX1_init 51 = .ok (.aload_n 0, 1) := by decide +kernel
theorem dX1_init_52 : decode cX1_init 52 = .ok (.bipush 10, 2) := by decide +kernel
theorem dX1_init_54 : decode cX1_init 54 = .ok (.anewarray 15, 3) := by decide +kernel
theorem dX1_init_57 : decode cX1_init 57 = .ok (.putfield 33, 3) := by decide +kernel
theorem dX1_init_60 : decode cX1_init 60 = .ok (.aload_n 0, 1) := by decide +kernel
theorem dX1_init_61 : decode cX1_init 61 = .ok (.aload_n 1, 1) := by decide +kernel
theorem dX1_init_62 : decode cX1_init 62 = .ok (.putfield 37, 3) := by decide +kernel
theorem dX1_init_65 : decode cX1_init 65 = .ok (.iconst 0, 1) := by decide +kernel
theorem dX1_init_66 : decode cX1_init 66 = .ok (.istore_n 2, 1) := by decide +kernel
theorem dX1_init_67 : decode cX1_init 67 = .ok (.iload_n 2, 1) := by decide +kernel
theorem dX1_init_68 : decode cX1_init 68 = .ok (.bipush 10, 2) := by decide +kernel
theorem dX1_init_70 : decode cX1_init 70 = .ok (.if_icmp .ge 22, 3) := by decide +kernel
theorem dX1_init_73 : decode cX1_init 73 = .ok (.aload_n 0, 1) := by decide +kernel
theorem dX1_init_74 : decode cX1_init 74 = .ok (.getfield 33, 3) := by decide +kernel
theorem dX1_init_77 : decode cX1_init 77 = .ok (.iload_n 2, 1) := by decide +kernel
theorem dX1_init_78 : decode cX1_init 78 = .ok (.new 15, 3) := by decide +kernel
theorem dX1_init_81 : decode cX1_init 81 = .ok (.dup, 1) := by decide +kernel
theorem dX1_init_82 : decode cX1_init 82 = .ok (.invokespecial 17, 3) := by decide +kernel
theorem dX1_init_85 : decode cX1_init 85 = .ok (.aastore, 1) := by decide +kernel
theorem dX1_init_86 : decode cX1_init 86 = .ok (.iinc 2 1, 3) := by decide +kernel
theorem dX1_init_89 : decode cX1_init 89 = .ok (.goto (-22), 3) := by decide +kernel
theorem dX1_init_92 : decode cX1_init 92 = .ok (.return_, 1) := by decide +kernel
theorem dX1_begin_0 : decode cX1_begin 0 = .ok (.aload_n 0, 1) := by decide +kernel
theorem dX1_begin_1 : decode cX1_begin 1 = .ok (.aload_n 0, 1) := by decide +kernel
theorem dX1_begin_2 : decode cX1_begin 2 = .ok (.getfield 37, 3) := by decide +kernel
theorem dX1_begin_5 : decode cX1_begin 5 = .ok (.getfield 41, 3) := by decide +kernel
theorem dX1_begin_8 : decode cX1_begin 8 = .ok (.putfield 47, 3) := by decide +kernel
theorem dX1_begin_11 : decode cX1_begin 11 = .ok (.aload_n 0, 1) := by decide +kernel
theorem dX1_begin_12 : decode cX1_begin 12 = .ok (.aload_n 0, 1) := by decide +kernel
theorem dX1_begin_13 : decode cX1_begin 13 = .ok (.getfield 37, 3) := by decide +kernel
theorem dX1_begin_16 : decode cX1_begin 16 = .ok (.getfield 48, 3) := by decide +kernel
theorem dX1_begin_19 : decode cX1_begin 19 = .ok (.putfield 51, 3) := by decide +kernel
theorem dX1_begin_22 : decode cX1_begin 22 = .ok (.aload_n 0, 1) := by decide +kernel
theorem dX1_begin_23 : decode cX1_begin 23 = .ok (.getfield 37, 3) := by decide +kernel
theorem dX1_begin_26 : decode cX1_begin 26 = .ok (.getfield 52, 3) := by decide +kernel
theorem dX1_begin_29 : decode cX1_begin 29 = .ok (.iconst 0, 1) := by decide +kernel
theorem dX1_begin_30 : decode cX1_begin 30 = .ok (.aload_n 0, 1) := by decide +kernel
theorem dX1_begin_31 : decode cX1_begin 31 = .ok (.getfield 9, 3) := by decide +kernel
theorem dX1_begin_34 : decode cX1_begin 34 = .ok (.iconst 0, 1) := by decide +kernel
theorem dX1_begin_35 : decode cX1_begin 35 = .ok (.bipush 8, 2) := by decide +kernel
theorem dX1_begin_37 : decode cX1_begin 37 = .ok (.invokestatic 55, 3) := by decide +kernel
theorem dX1_begin_40 : decode cX1_begin 40 = .ok (.aload_n 0, 1) := by decide +kernel
theorem dX1_begin_41 : decode cX1_begin 41 = .ok (.getfield 18, 3) := by decide +kernel
theorem dX1_begin_44 : decode cX1_begin 44 = .ok (.aload_n 0, 1) := by decide +kernel
theorem dX1_begin_45 : decode cX1_begin 45 = .ok (.getfield 37, 3) := by decide +kernel
theorem dX1_begin_48 : decode cX1_begin 48 = .ok (.getfield 61, 3) := by decide +kernel
theorem dX1_begin_51 : decode cX1_begin 51 = .ok (.invokevirtual 62, 3) := by decide +kernel
theorem dX1_begin_54 : decode cX1_begin 54 = .ok (.return_, 1) := by decide +kernel
theorem dX1_go_0 : decode cX1_go 0 = .ok (.aload_n 0, 1) := by decide +kernel
theorem dX1_go_1 : decode cX1_go 1 = .ok (.iconst 0, 1) := by decide +kernel
theorem dX1_go_2 : decode cX1_go 2 = .ok (.putfield 66, 3) := by decide +kernel
theorem dX1_go_5 : decode cX1_go 5 = .ok (.aload_n 0, 1) := by decide +kernel
theorem dX1_go_6 : decode cX1_go 6 = .ok (.iconst 0, 1) := by decide +kernel
theorem dX1_go_7 : decode cX1_go 7 = .ok (.putfield 69, 3) := by decide +kernel
theorem dX1_go_10 : decode cX1_go 10 = .ok (.aload_n 0, 1) := by decide +kernel
theorem dX1_go_11 : decode cX1_go 11 = .ok (.iconst (-1), 1) := by decide +kernel
theorem dX1_go_12 : decode cX1_go 12 = .ok (.putfield 72, 3) := by decide +kernel
theorem dX1_go_15 : decode cX1_go 15 = .ok (.aload_n 0, 1) := by decide +kernel
theorem dX1_go_16 : decode cX1_go 16 = .ok (.iconst (-1), 1) := by decide +kernel
theorem dX1_go_17 : decode cX1_go 17 = .ok (.putfield 75, 3) := by decide +kernel
theorem dX1_go_20 : decode cX1_go 20 = .ok (.aload_n 0, 1) := by decide +kernel
theorem dX1_go_21 : decode cX1_go 21 = .ok (.iconst (-1), 1) := by decide +kernel
theorem dX1_go_22 : decode cX1_go 22 = .ok (.putfield 78, 3) := by decide +kernel
theorem dX1_go_25 : decode cX1_go 25 = .ok (.aload_n 0, 1) := by decide +kernel
theorem dX1_go_26 : decode cX1_go 26 = .ok (.iconst (-1), 1) := by decide +kernel
theorem dX1_go_27 : decode cX1_go 27 = .ok (.putfield 81, 3) := by decide +kernel
theorem dX1_go_30 : decode cX1_go 30 = .ok (.iconst 0, 1) := by decide +kernel
theorem dX1_go_31 : decode cX1_go 31 = .ok (.istore_n 1, 1) := by decide +kernel
theorem dX1_go_32 : decode cX1_go 32 = .ok (.iconst 0, 1) := by decide +kernel
theorem dX1_go_33 : decode cX1_go 33 = .ok (.istore_n 2, 1) := by decide +kernel
theorem dX1_go_34 : decode cX1_go 34 = .ok (.iload_n 2, 1) := by decide +kernel
theorem dX1_go_35 : decode cX1_go 35 = .ok (.bipush 10, 2) := by decide +kernel
theorem dX1_go_37 : decode cX1_go 37 = .ok (.if_icmp .ge 113, 3) := by decide +kernel
theorem dX1_go_40 : decode cX1_go 40 = .ok (.iload_n 1, 1) := by decide +kernel
theorem dX1_go_41 : decode cX1_go 41 = .ok (.ifCond .ne 109, 3) := by decide +kernel
theorem dX1_go_44 : decode cX1_go 44 = .ok (.aload_n 0, 1) := by decide +kernel
theorem dX1_go_45 : decode cX1_go 45 = .ok (.getfield 69, 3) := by decide +kernel
theorem dX1_go_48 : decode cX1_go 48 = .ok (.istore_n 3, 1) := by decide +kernel
theorem dX1_go_49 : decode cX1_go 49 = .ok (.iconst 0, 1) := by decide +kernel
theorem dX1_go_50 : decode cX1_go 50 = .ok (.istore 4, 2) := by decide +kernel
theorem dX1_go_52 : decode cX1_go 52 = .ok (.iconst 0, 1) := by decide +kernel
theorem dX1_go_53 : decode cX1_go 53 = .ok (.istore 5, 2) := by decide +kernel
theorem dX1_go_55 : decode cX1_go 55 = .ok (.iload 5, 2) := by decide +kernel
theorem dX1_go_57 : decode cX1_go 57 = .ok (.bipush 10, 2) := by decide +kernel
theorem dX1_go_59 : decode cX1_go 59 = .ok (.if_icmp .ge 40, 3) := by decide +kernel
theorem dX1_go_62 : decode cX1_go 62 = .ok (.iload 4, 2) := by decide +kernel
theorem dX1_go_64 : decode cX1_go 64 = .ok (.aload_n 0, 1) := by decide +kernel
theorem dX1_go_65 : decode cX1_go 65 = .ok (.iload 5, 2) := by decide +kernel
theorem dX1_go_67 : decode cX1_go 67 = .ok (.invokevirtual 84, 3) := by decide +kernel
theorem dX1_go_70 : decode cX1_go 70 = .ok (.ior, 1) := by decide +kernel
theorem dX1_go_71 : decode cX1_go 71 = .ok (.istore 4, 2) := by decide +kernel
theorem dX1_go_73 : decode cX1_go 73 = .ok (.aload_n 0, 1) := by decide +kernel
theorem dX1_go_74 : decode cX1_go 74 = .ok (.getfield 51, 3) := by decide +kernel
theorem dX1_go_77 : decode cX1_go 77 = .ok (.iload 5, 2) := by decide +kernel
theorem dX1_go_79 : decode cX1_go 79 = .ok (.ishr, 1) := by decide +kernel
theorem dX1_go_80 : decode cX1_go 80 = .ok (.iconst 1, 1) := by decide +kernel
theorem dX1_go_81 : decode cX1_go 81 = .ok (.iand, 1) := by decide +kernel
theorem dX1_go_82 : decode cX1_go 82 = .ok (.iconst 1, 1) := by decide +kernel
theorem dX1_go_83 : decode cX1_go 83 = .ok (.if_icmp .ne 10, 3) := by decide +kernel
theorem dX1_go_86 : decode cX1_go 86 = .ok (.aload_n 0, 1) := by decide +kernel
theorem dX1_go_87 : decode cX1_go 87 = .ok (.iload_n 2, 1) := by decide +kernel
theorem dX1_go_88 : decode cX1_go 88 = .ok (.iload 5, 2) := by decide +kernel
theorem dX1_go_90 : decode cX1_go 90 = .ok (.invokevirtual 88, 3) := by decide +kernel
theorem dX1_go_93 : decode cX1_go 93 = .ok (.iinc 5 1, 3) := by decide +kernel
theorem dX1_go_96 : decode cX1_go 96 = .ok (.goto (-41), 3) := by decide +kernel
theorem dX1_go_99 : decode cX1_go 99 = .ok (.aload_n 0, 1) := by decide +kernel
theorem dX1_go_100 : decode cX1_go 100 = .ok (.iload_n 2, 1) := by decide +kernel
theorem dX1_go_101 : decode cX1_go 101 = .ok (.invokevirtual 92, 3) := by decide +kernel
theorem dX1_go_104 : decode cX1_go 104 = .ok (.aload_n 0, 1) := by decide +kernel
theorem dX1_go_105 : decode cX1_go 105 = .ok (.getfield 69, 3) := by decide +kernel
theorem dX1_go_108 : decode cX1_go 108 = .ok (.iload_n 3, 1) := by decide +kernel
theorem dX1_go_109 : decode cX1_go 109 = .ok (.if_icmp .ne 16, 3) := by decide +kernel
theorem dX1_go_112 : decode cX1_go 112 = .ok (.aload_n 0, 1) := by decide +kernel
theorem dX1_go_113 : decode cX1_go 113 = .ok (.getfield 81, 3) := by decide +kernel
theorem dX1_go_116 : decode cX1_go 116 = .ok (.iconst (-1), 1) := by decide +kernel
theorem dX1_go_117 : decode cX1_go 117 = .ok (.if_icmp .ne 8, 3) := by decide +kernel
theorem dX1_go_120 : decode cX1_go 120 = .ok (.aload_n 0, 1) := by decide +kernel
theorem dX1_go_121 : decode cX1_go 121 = .ok (.iload_n 2, 1) := by decide +kernel
theorem dX1_go_122 : decode cX1_go 122 = .ok (.putfield 81, 3) := by decide +kernel
theorem dX1_go_125 : decode cX1_go 125 = .ok (.aload_n 0, 1) := by decide +kernel
theorem dX1_go_126 : decode cX1_go 126 = .ok (.getfield 69, 3) := by decide +kernel
theorem dX1_go_129 : decode cX1_go 129 = .ok (.iload_n 3, 1) := by decide +kernel
theorem dX1_go_130 : decode cX1_go 130 = .ok (.if_icmp .ne 12, 3) := by decide +kernel
theorem dX1_go_133 : decode cX1_go 133 = .ok (.iload 4, 2) := by decide +kernel
theorem dX1_go_135 : decode cX1_go 135 = .ok (.ifCond .ne 7, 3) := by decide +kernel
theorem dX1_go_138 : decode cX1_go 138 = .ok (.iconst 1, 1) := by decide +kernel
theorem dX1_go_139 : decode cX1_go 139 = .ok (.goto 4, 3) := by decide +kernel
theorem dX1_go_142 : decode cX1_go 142 = .ok (.iconst 0, 1) := by decide +kernel
theorem dX1_go_143 : decode cX1_go 143 = .ok (.istore_n 1, 1) := by decide +kernel
theorem dX1_go_144 : decode cX1_go 144 = .ok (.iinc 2 1, 3) := by decide +kernel
theorem dX1_go_147 : decode cX1_go 147 = .ok (.goto (-113), 3) := by decide +kernel
theorem dX1_go_150 : decode cX1_go 150 = .ok (.return_, 1) := by decide +kernel
theorem dX1_leaveAt_0 : decode cX1_leaveAt 0 = .ok (.iconst 0, 1) := by decide +kernel
theorem dX1_leaveAt_1 : decode cX1_leaveAt 1 = .ok (.istore_n 2, 1) := by decide +kernel
theorem dX1_leaveAt_2 : decode cX1_leaveAt 2 = .ok (.aload_n 0, 1) := by decide +kernel
theorem dX1_leaveAt_3 : decode cX1_leaveAt 3 = .ok (.getfield 37, 3) := by decide +kernel
theorem dX1_leaveAt_6 : decode cX1_leaveAt 6 = .ok (.getfield 96, 3) := by decide +kernel
theorem dX1_leaveAt_9 : decode cX1_leaveAt 9 = .ok (.iload_n 1, 1) := by decide +kernel
theorem dX1_leaveAt_10 : decode cX1_leaveAt 10 = .ok (.iaload, 1) := by decide +kernel
theorem dX1_leaveAt_11 : decode cX1_leaveAt 11 = .ok (.aload_n 0, 1) := by decide +kernel
theorem dX1_leaveAt_12 : decode cX1_leaveAt 12 = .ok (.getfield 37, 3) := by decide +kernel
theorem dX1_leaveAt_15 : decode cX1_leaveAt 15 = .ok (.getfield 99, 3) := by decide +kernel
theorem dX1_leaveAt_18 : decode cX1_leaveAt 18 = .ok (.iand, 1) := by decide +kernel
theorem dX1_leaveAt_19 : decode cX1_leaveAt 19 = .ok (.istore_n 3, 1) := by decide +kernel
theorem dX1_leaveAt_20 : decode cX1_leaveAt 20 = .ok (.iconst 0, 1) := by decide +kernel
theorem dX1_leaveAt_21 : decode cX1_leaveAt 21 = .ok (.istore 4, 2) := by decide +kernel
theorem dX1_leaveAt_23 : decode cX1_leaveAt 23 = .ok (.iload 4, 2) := by decide +kernel
theorem dX1_leaveAt_25 : decode cX1_leaveAt 25 = .ok (.aload_n 0, 1) := by decide +kernel
theorem dX1_leaveAt_26 : decode cX1_leaveAt 26 = .ok (.getfield 37, 3) := by decide +kernel
theorem dX1_leaveAt_29 : decode cX1_leaveAt 29 = .ok (.getfield 102, 3) := by decide +kernel
theorem dX1_leaveAt_32 : decode cX1_leaveAt 32 = .ok (.if_icmp .ge 73, 3) := by decide +kernel
theorem dX1_leaveAt_35 : decode cX1_leaveAt 35 = .ok (.iload_n 3, 1) := by decide +kernel
theorem dX1_leaveAt_36 : decode cX1_leaveAt 36 = .ok (.ifCond .eq 69, 3) := by decide +kernel
theorem dX1_leaveAt_39 : decode cX1_leaveAt 39 = .ok (.iload_n 3, 1) := by decide +kernel
theorem dX1_leaveAt_40 : decode cX1_leaveAt 40 = .ok (.iload 4, 2) := by decide +kernel
theorem dX1_leaveAt_42 : decode cX1_leaveAt 42 = .ok (.ishr, 1) := by decide +kernel
theorem dX1_leaveAt_43 : decode cX1_leaveAt 43 = .ok (.iconst 1, 1) := by decide +kernel
theorem dX1_leaveAt_44 : decode cX1_leaveAt 44 = .ok (.iand, 1) := by decide +kernel
theorem dX1_leaveAt_45 : decode cX1_leaveAt 45 = .ok (.iconst 1, 1) := by decide +kernel
theorem dX1_leaveAt_46 : decode cX1_leaveAt 46 = .ok (.if_icmp .ne 53, 3) := by decide +kernel
theorem dX1_leaveAt_49 : decode cX1_leaveAt 49 = .ok (.aload_n 0, 1) := by decide +kernel
theorem dX1_leaveAt_50 : decode cX1_leaveAt 50 = .ok (.getfield 9, 3) := by decide +kernel
theorem dX1_leaveAt_53 : decode cX1_leaveAt 53 = .ok (.iload 4, 2) := by decide +kernel
theorem dX1_leaveAt_55 : decode cX1_leaveAt 55 = .ok (.iaload, 1) := by decide +kernel
theorem dX1_leaveAt_56 : decode cX1_leaveAt 56 = .ok (.iconst (-1), 1) := by decide +kernel
theorem dX1_leaveAt_57 : decode cX1_leaveAt 57 = .ok (.if_icmp .eq 42, 3) := by decide +kernel
theorem dX1_leaveAt_60 : decode cX1_leaveAt 60 = .ok (.aload_n 0, 1) := by decide +kernel
theorem dX1_leaveAt_61 : decode cX1_leaveAt 61 = .ok (.getfield 18, 3) := by decide +kernel
theorem dX1_leaveAt_64 : decode cX1_leaveAt 64 = .ok (.aload_n 0, 1) := by decide +kernel
theorem dX1_leaveAt_65 : decode cX1_leaveAt 65 = .ok (.getfield 9, 3) := by decide +kernel
theorem dX1_leaveAt_68 : decode cX1_leaveAt 68 = .ok (.iload 4, 2) := by decide +kernel
theorem dX1_leaveAt_70 : decode cX1_leaveAt 70 = .ok (.iaload, 1) := by decide +kernel
theorem dX1_leaveAt_71 : decode cX1_leaveAt 71 = .ok (.invokevirtual 105, 3) := by decide +kernel
theorem dX1_leaveAt_74 : decode cX1_leaveAt 74 = .ok (.aload_n 0, 1) := by decide +kernel
theorem dX1_leaveAt_75 : decode cX1_leaveAt 75 = .ok (.getfield 9, 3) := by decide +kernel
theorem dX1_leaveAt_78 : decode cX1_leaveAt 78 = .ok (.iload 4, 2) := by decide +kernel
theorem dX1_leaveAt_80 : decode cX1_leaveAt 80 = .ok (.iconst (-1), 1) := by decide +kernel
theorem dX1_leaveAt_81 : decode cX1_leaveAt 81 = .ok (.iastore, 1) := by decide +kernel
theorem dX1_leaveAt_82 : decode cX1_leaveAt 82 = .ok (.aload_n 0, 1) := by decide +kernel
theorem dX1_leaveAt_83 : decode cX1_leaveAt 83 = .ok (.dup, 1) := by decide +kernel
theorem dX1_leaveAt_84 : decode cX1_leaveAt 84 = .ok (.getfield 66, 3) := by decide +kernel
theorem dX1_leaveAt_87 : decode cX1_leaveAt 87 = .ok (.iconst 1, 1) := by decide +kernel
theorem dX1_leaveAt_88 : decode cX1_leaveAt 88 = .ok (.iload 4, 2) := by decide +kernel
theorem dX1_leaveAt_90 : decode cX1_leaveAt 90 = .ok (.ishl, 1) := by decide +kernel
theorem dX1_leaveAt_91 : decode cX1_leaveAt 91 = .ok (.iconst (-1), 1) := by decide +kernel
theorem dX1_leaveAt_92 : decode cX1_leaveAt 92 = .ok (.ixor, 1) := by decide +kernel
theorem dX1_leaveAt_93 : decode cX1_leaveAt 93 = .ok (.iand, 1) := by decide +kernel
theorem dX1_leaveAt_94 : decode cX1_leaveAt 94 = .ok (.putfield 66, 3) := by decide +kernel
theorem dX1_leaveAt_97 : decode cX1_leaveAt 97 = .ok (.iconst 1, 1) := by decide +kernel
theorem dX1_leaveAt_98 : decode cX1_leaveAt 98 = .ok (.istore_n 2, 1) := by decide +kernel
theorem dX1_leaveAt_99 : decode cX1_leaveAt 99 = .ok (.iinc 4 1, 3) := by decide +kernel
theorem dX1_leaveAt_102 : decode cX1_leaveAt 102 = .ok (.goto (-79), 3) := by decide +kernel
theorem dX1_leaveAt_105 : decode cX1_leaveAt 105 = .ok (.iload_n 2, 1) := by decide +kernel
theorem dX1_leaveAt_106 : decode cX1_leaveAt 106 = .ok (.ireturn, 1) := by decide +kernel
theorem dX1_changeAt_0 : decode cX1_changeAt 0 = .ok (.aload_n 0, 1) := by decide +kernel
theorem dX1_changeAt_1 : decode cX1_changeAt 1 = .ok (.getfield 37, 3) := by decide +kernel
theorem dX1_changeAt_4 : decode cX1_changeAt 4 = .ok (.getfield 108, 3) := by decide +kernel
theorem dX1_changeAt_7 : decode cX1_changeAt 7 = .ok (.iload_n 2, 1) := by decide +kernel
theorem dX1_changeAt_8 : decode cX1_changeAt 8 = .ok (.iaload, 1) := by decide +kernel
theorem dX1_changeAt_9 : decode cX1_changeAt 9 = .ok (.istore_n 3, 1) := by decide +kernel
theorem dX1_changeAt_10 : decode cX1_changeAt 10 = .ok (.iconst 0, 1) := by decide +kernel
theorem dX1_changeAt_11 : decode cX1_changeAt 11 = .ok (.istore 4, 2) := by decide +kernel
theorem dX1_changeAt_13 : decode cX1_changeAt 13 = .ok (.iload 4, 2) := by decide +kernel
theorem dX1_changeAt_15 : decode cX1_changeAt 15 = .ok (.aload_n 0, 1) := by decide +kernel
theorem dX1_changeAt_16 : decode cX1_changeAt 16 = .ok (.getfield 37, 3) := by decide +kernel
theorem dX1_changeAt_19 : decode cX1_changeAt 19 = .ok (.getfield 102, 3) := by decide +kernel
theorem dX1_changeAt_22 : decode cX1_changeAt 22 = .ok (.if_icmp .ge 95, 3) := by decide +kernel
theorem dX1_changeAt_25 : decode cX1_changeAt 25 = .ok (.iload_n 3, 1) := by decide +kernel
theorem dX1_changeAt_26 : decode cX1_changeAt 26 = .ok (.iload 4, 2) := by decide +kernel
theorem dX1_changeAt_28 : decode cX1_changeAt 28 = .ok (.ishr, 1) := by decide +kernel
theorem dX1_changeAt_29 : decode cX1_changeAt 29 = .ok (.iconst 1, 1) := by decide +kernel
theorem dX1_changeAt_30 : decode cX1_changeAt 30 = .ok (.iand, 1) := by decide +kernel
theorem dX1_changeAt_31 : decode cX1_changeAt 31 = .ok (.iconst 1, 1) := by decide +kernel
theorem dX1_changeAt_32 : decode cX1_changeAt 32 = .ok (.if_icmp .ne 79, 3) := by decide +kernel
theorem dX1_changeAt_35 : decode cX1_changeAt 35 = .ok (.aload_n 0, 1) := by decide +kernel
theorem dX1_changeAt_36 : decode cX1_changeAt 36 = .ok (.getfield 37, 3) := by decide +kernel
theorem dX1_changeAt_39 : decode cX1_changeAt 39 = .ok (.iload 4, 2) := by decide +kernel
theorem dX1_changeAt_41 : decode cX1_changeAt 41 = .ok (.aload_n 0, 1) := by decide +kernel
theorem dX1_changeAt_42 : decode cX1_changeAt 42 = .ok (.getfield 9, 3) := by decide +kernel
theorem dX1_changeAt_45 : decode cX1_changeAt 45 = .ok (.iload 4, 2) := by decide +kernel
theorem dX1_changeAt_47 : decode cX1_changeAt 47 = .ok (.iaload, 1) := by decide +kernel
theorem dX1_changeAt_48 : decode cX1_changeAt 48 = .ok (.aload_n 0, 1) := by decide +kernel
theorem dX1_changeAt_49 : decode cX1_changeAt 49 = .ok (.getfield 47, 3) := by decide +kernel
theorem dX1_changeAt_52 : decode cX1_changeAt 52 = .ok (.invokevirtual 111, 3) := by decide +kernel
theorem dX1_changeAt_55 : decode cX1_changeAt 55 = .ok (.ifCond .eq 56, 3) := by decide +kernel
theorem dX1_changeAt_58 : decode cX1_changeAt 58 = .ok (.aload_n 0, 1) := by decide +kernel
theorem dX1_changeAt_59 : decode cX1_changeAt 59 = .ok (.iload 4, 2) := by decide +kernel
theorem dX1_changeAt_61 : decode cX1_changeAt 61 = .ok (.invokevirtual 115, 3) := by decide +kernel
theorem dX1_changeAt_64 : decode cX1_changeAt 64 = .ok (.ifCond .ne 13, 3) := by decide +kernel
theorem dX1_changeAt_67 : decode cX1_changeAt 67 = .ok (.aload_n 0, 1) := by decide +kernel
theorem dX1_changeAt_68 : decode cX1_changeAt 68 = .ok (.iload 4, 2) := by decide +kernel
theorem dX1_changeAt_70 : decode cX1_changeAt 70 = .ok (.iload_n 3, 1) := by decide +kernel
theorem dX1_changeAt_71 : decode cX1_changeAt 71 = .ok (.invokevirtual 118, 3) := by decide +kernel
theorem dX1_changeAt_74 : decode cX1_changeAt 74 = .ok (.ifCond .eq 37, 3) := by decide +kernel
theorem dX1_changeAt_77 : decode cX1_changeAt 77 = .ok (.aload_n 0, 1) := by decide +kernel
theorem dX1_changeAt_78 : decode cX1_changeAt 78 = .ok (.dup, 1) := by decide +kernel
theorem dX1_changeAt_79 : decode cX1_changeAt 79 = .ok (.getfield 69, 3) := by decide +kernel
theorem dX1_changeAt_82 : decode cX1_changeAt 82 = .ok (.iconst 1, 1) := by decide +kernel
theorem dX1_changeAt_83 : decode cX1_changeAt 83 = .ok (.iadd, 1) := by decide +kernel
theorem dX1_changeAt_84 : decode cX1_changeAt 84 = .ok (.putfield 69, 3) := by decide +kernel
theorem dX1_changeAt_87 : decode cX1_changeAt 87 = .ok (.aload_n 0, 1) := by decide +kernel
theorem dX1_changeAt_88 : decode cX1_changeAt 88 = .ok (.getfield 72, 3) := by decide +kernel
theorem dX1_changeAt_91 : decode cX1_changeAt 91 = .ok (.iconst (-1), 1) := by decide +kernel
theorem dX1_changeAt_92 : decode cX1_changeAt 92 = .ok (.if_icmp .ne 19, 3) := by decide +kernel
theorem dX1_changeAt_95 : decode cX1_changeAt 95 = .ok (.aload_n 0, 1) := by decide +kernel
theorem dX1_changeAt_96 : decode cX1_changeAt 96 = .ok (.iload_n 1, 1) := by decide +kernel
theorem dX1_changeAt_97 : decode cX1_changeAt 97 = .ok (.putfield 72, 3) := by decide +kernel
theorem dX1_changeAt_100 : decode cX1_changeAt 100 = .ok (.aload_n 0, 1) := by decide +kernel
theorem dX1_changeAt_101 : decode cX1_changeAt 101 = .ok (.iload_n 2, 1) := by decide +kernel
theorem dX1_changeAt_102 : decode cX1_changeAt 102 = .ok (.putfield 75, 3) := by decide +kernel
theorem dX1_changeAt_105 : decode cX1_changeAt 105 = .ok (.aload_n 0, 1) := by decide +kernel
theorem dX1_changeAt_106 : decode cX1_changeAt 106 = .ok (.iload 4, 2) := by decide +kernel
theorem dX1_changeAt_108 : decode cX1_changeAt 108 = .ok (.putfield 78, 3) := by decide +kernel
theorem dX1_changeAt_111 : decode cX1_changeAt 111 = .ok (.iinc 4 1, 3) := by decide +kernel
theorem dX1_changeAt_114 : decode cX1_changeAt 114 = .ok (.goto (-101), 3) := by decide +kernel
theorem dX1_changeAt_117 : decode cX1_changeAt 117 = .ok (.return_, 1) := by decide +kernel
theorem dX1_takeWhole_0 : decode cX1_takeWhole 0 = .ok (.aload_n 0, 1) := by decide +kernel
theorem dX1_takeWhole_1 : decode cX1_takeWhole 1 = .ok (.getfield 18, 3) := by decide +kernel
theorem dX1_takeWhole_4 : decode cX1_takeWhole 4 = .ok (.aload_n 0, 1) := by decide +kernel
theorem dX1_takeWhole_5 : decode cX1_takeWhole 5 = .ok (.getfield 37, 3) := by decide +kernel
theorem dX1_takeWhole_8 : decode cX1_takeWhole 8 = .ok (.getfield 122, 3) := by decide +kernel
theorem dX1_takeWhole_11 : decode cX1_takeWhole 11 = .ok (.iload_n 1, 1) := by decide +kernel
theorem dX1_takeWhole_12 : decode cX1_takeWhole 12 = .ok (.iaload, 1) := by decide +kernel
theorem dX1_takeWhole_13 : decode cX1_takeWhole 13 = .ok (.invokevirtual 125, 3) := by decide +kernel
theorem dX1_takeWhole_16 : decode cX1_takeWhole 16 = .ok (.istore_n 2, 1) := by decide +kernel
theorem dX1_takeWhole_17 : decode cX1_takeWhole 17 = .ok (.iload_n 2, 1) := by decide +kernel
theorem dX1_takeWhole_18 : decode cX1_takeWhole 18 = .ok (.iconst (-1), 1) := by decide +kernel
theorem dX1_takeWhole_19 : decode cX1_takeWhole 19 = .ok (.if_icmp .ne 5, 3) := by decide +kernel
theorem dX1_takeWhole_22 : decode cX1_takeWhole 22 = .ok (.iconst 0, 1) := by decide +kernel
theorem dX1_takeWhole_23 : decode cX1_takeWhole 23 = .ok (.ireturn, 1) := by decide +kernel
theorem dX1_takeWhole_24 : decode cX1_takeWhole 24 = .ok (.aload_n 0, 1) := by decide +kernel
theorem dX1_takeWhole_25 : decode cX1_takeWhole 25 = .ok (.getfield 18, 3) := by decide +kernel
theorem dX1_takeWhole_28 : decode cX1_takeWhole 28 = .ok (.iload_n 2, 1) := by decide +kernel
theorem dX1_takeWhole_29 : decode cX1_takeWhole 29 = .ok (.invokevirtual 129, 3) := by decide +kernel
theorem dX1_takeWhole_32 : decode cX1_takeWhole 32 = .ok (.aload_n 0, 1) := by decide +kernel
theorem dX1_takeWhole_33 : decode cX1_takeWhole 33 = .ok (.getfield 18, 3) := by decide +kernel
theorem dX1_takeWhole_36 : decode cX1_takeWhole 36 = .ok (.aload_n 0, 1) := by decide +kernel
theorem dX1_takeWhole_37 : decode cX1_takeWhole 37 = .ok (.getfield 9, 3) := by decide +kernel
theorem dX1_takeWhole_40 : decode cX1_takeWhole 40 = .ok (.iload_n 1, 1) := by decide +kernel
theorem dX1_takeWhole_41 : decode cX1_takeWhole 41 = .ok (.iaload, 1) := by decide +kernel
theorem dX1_takeWhole_42 : decode cX1_takeWhole 42 = .ok (.invokevirtual 105, 3) := by decide +kernel
theorem dX1_takeWhole_45 : decode cX1_takeWhole 45 = .ok (.aload_n 0, 1) := by decide +kernel
theorem dX1_takeWhole_46 : decode cX1_takeWhole 46 = .ok (.getfield 9, 3) := by decide +kernel
theorem dX1_takeWhole_49 : decode cX1_takeWhole 49 = .ok (.iload_n 1, 1) := by decide +kernel
theorem dX1_takeWhole_50 : decode cX1_takeWhole 50 = .ok (.aload_n 0, 1) := by decide +kernel
theorem dX1_takeWhole_51 : decode cX1_takeWhole 51 = .ok (.getfield 37, 3) := by decide +kernel
theorem dX1_takeWhole_54 : decode cX1_takeWhole 54 = .ok (.getfield 122, 3) := by decide +kernel
theorem dX1_takeWhole_57 : decode cX1_takeWhole 57 = .ok (.iload_n 1, 1) := by decide +kernel
theorem dX1_takeWhole_58 : decode cX1_takeWhole 58 = .ok (.iaload, 1) := by decide +kernel
theorem dX1_takeWhole_59 : decode cX1_takeWhole 59 = .ok (.iastore, 1) := by decide +kernel
theorem dX1_takeWhole_60 : decode cX1_takeWhole 60 = .ok (.iconst 1, 1) := by decide +kernel
theorem dX1_takeWhole_61 : decode cX1_takeWhole 61 = .ok (.ireturn, 1) := by decide +kernel
theorem dX1_takeTorn_0 : decode cX1_takeTorn 0 = .ok (.aload_n 0, 1) := by decide +kernel
theorem dX1_takeTorn_1 : decode cX1_takeTorn 1 = .ok (.getfield 18, 3) := by decide +kernel
theorem dX1_takeTorn_4 : decode cX1_takeTorn 4 = .ok (.aload_n 0, 1) := by decide +kernel
theorem dX1_takeTorn_5 : decode cX1_takeTorn 5 = .ok (.getfield 37, 3) := by decide +kernel
theorem dX1_takeTorn_8 : decode cX1_takeTorn 8 = .ok (.getfield 122, 3) := by decide +kernel
theorem dX1_takeTorn_11 : decode cX1_takeTorn 11 = .ok (.iload_n 1, 1) := by decide +kernel
theorem dX1_takeTorn_12 : decode cX1_takeTorn 12 = .ok (.iaload, 1) := by decide +kernel
theorem dX1_takeTorn_13 : decode cX1_takeTorn 13 = .ok (.bipush 8, 2) := by decide +kernel
theorem dX1_takeTorn_15 : decode cX1_takeTorn 15 = .ok (.iadd, 1) := by decide +kernel
theorem dX1_takeTorn_16 : decode cX1_takeTorn 16 = .ok (.invokevirtual 125, 3) := by decide +kernel
theorem dX1_takeTorn_19 : decode cX1_takeTorn 19 = .ok (.istore_n 3, 1) := by decide +kernel
theorem dX1_takeTorn_20 : decode cX1_takeTorn 20 = .ok (.iload_n 3, 1) := by decide +kernel
theorem dX1_takeTorn_21 : decode cX1_takeTorn 21 = .ok (.iconst (-1), 1) := by decide +kernel
theorem dX1_takeTorn_22 : decode cX1_takeTorn 22 = .ok (.if_icmp .ne 5, 3) := by decide +kernel
theorem dX1_takeTorn_25 : decode cX1_takeTorn 25 = .ok (.iconst 0, 1) := by decide +kernel
theorem dX1_takeTorn_26 : decode cX1_takeTorn 26 = .ok (.ireturn, 1) := by decide +kernel
theorem dX1_takeTorn_27 : decode cX1_takeTorn 27 = .ok (.iconst 0, 1) := by decide +kernel
theorem dX1_takeTorn_28 : decode cX1_takeTorn 28 = .ok (.istore 4, 2) := by decide +kernel
theorem dX1_takeTorn_30 : decode cX1_takeTorn 30 = .ok (.iload 4, 2) := by decide +kernel
theorem dX1_takeTorn_32 : decode cX1_takeTorn 32 = .ok (.aload_n 0, 1) := by decide +kernel
theorem dX1_takeTorn_33 : decode cX1_takeTorn 33 = .ok (.getfield 37, 3) := by decide +kernel
theorem dX1_takeTorn_36 : decode cX1_takeTorn 36 = .ok (.getfield 102, 3) := by decide +kernel
theorem dX1_takeTorn_39 : decode cX1_takeTorn 39 = .ok (.if_icmp .ge 155, 3) := by decide +kernel
theorem dX1_takeTorn_42 : decode cX1_takeTorn 42 = .ok (.iload 4, 2) := by decide +kernel
theorem dX1_takeTorn_44 : decode cX1_takeTorn 44 = .ok (.iload_n 1, 1) := by decide +kernel
theorem dX1_takeTorn_45 : decode cX1_takeTorn 45 = .ok (.if_icmp .eq 143, 3) := by decide +kernel
theorem dX1_takeTorn_48 : decode cX1_takeTorn 48 = .ok (.iload_n 2, 1) := by decide +kernel
theorem dX1_takeTorn_49 : decode cX1_takeTorn 49 = .ok (.iload 4, 2) := by decide +kernel
theorem dX1_takeTorn_51 : decode cX1_takeTorn 51 = .ok (.ishr, 1) := by decide +kernel
theorem dX1_takeTorn_52 : decode cX1_takeTorn 52 = .ok (.iconst 1, 1) := by decide +kernel
theorem dX1_takeTorn_53 : decode cX1_takeTorn 53 = .ok (.iand, 1) := by decide +kernel
theorem dX1_takeTorn_54 : decode cX1_takeTorn 54 = .ok (.iconst 1, 1) := by decide +kernel
theorem dX1_takeTorn_55 : decode cX1_takeTorn 55 = .ok (.if_icmp .ne 133, 3) := by decide +kernel
theorem dX1_takeTorn_58 : decode cX1_takeTorn 58 = .ok (.aload_n 0, 1) := by decide +kernel
theorem dX1_takeTorn_59 : decode cX1_takeTorn 59 = .ok (.getfield 37, 3) := by decide +kernel
theorem dX1_takeTorn_62 : decode cX1_takeTorn 62 = .ok (.getfield 122, 3) := by decide +kernel
theorem dX1_takeTorn_65 : decode cX1_takeTorn 65 = .ok (.iload 4, 2) := by decide +kernel
theorem dX1_takeTorn_67 : decode cX1_takeTorn 67 = .ok (.iaload, 1) := by decide +kernel
theorem dX1_takeTorn_68 : decode cX1_takeTorn 68 = .ok (.aload_n 0, 1) := by decide +kernel
theorem dX1_takeTorn_69 : decode cX1_takeTorn 69 = .ok (.getfield 37, 3) := by decide +kernel
theorem dX1_takeTorn_72 : decode cX1_takeTorn 72 = .ok (.getfield 122, 3) := by decide +kernel
theorem dX1_takeTorn_75 : decode cX1_takeTorn 75 = .ok (.iload_n 1, 1) := by decide +kernel
theorem dX1_takeTorn_76 : decode cX1_takeTorn 76 = .ok (.iaload, 1) := by decide +kernel
theorem dX1_takeTorn_77 : decode cX1_takeTorn 77 = .ok (.if_icmp .ne 111, 3) := by decide +kernel
theorem dX1_takeTorn_80 : decode cX1_takeTorn 80 = .ok (.aload_n 0, 1) := by decide +kernel
theorem dX1_takeTorn_81 : decode cX1_takeTorn 81 = .ok (.getfield 37, 3) := by decide +kernel
theorem dX1_takeTorn_84 : decode cX1_takeTorn 84 = .ok (.iload 4, 2) := by decide +kernel
theorem dX1_takeTorn_86 : decode cX1_takeTorn 86 = .ok (.aload_n 0, 1) := by decide +kernel
theorem dX1_takeTorn_87 : decode cX1_takeTorn 87 = .ok (.getfield 9, 3) := by decide +kernel
theorem dX1_takeTorn_90 : decode cX1_takeTorn 90 = .ok (.iload 4, 2) := by decide +kernel
theorem dX1_takeTorn_92 : decode cX1_takeTorn 92 = .ok (.iaload, 1) := by decide +kernel
theorem dX1_takeTorn_93 : decode cX1_takeTorn 93 = .ok (.aload_n 0, 1) := by decide +kernel
theorem dX1_takeTorn_94 : decode cX1_takeTorn 94 = .ok (.getfield 47, 3) := by decide +kernel
theorem dX1_takeTorn_97 : decode cX1_takeTorn 97 = .ok (.invokevirtual 111, 3) := by decide +kernel
theorem dX1_takeTorn_100 : decode cX1_takeTorn 100 = .ok (.ifCond .eq 88, 3) := by decide +kernel
theorem dX1_takeTorn_103 : decode cX1_takeTorn 103 = .ok (.aload_n 0, 1) := by decide +kernel
theorem dX1_takeTorn_104 : decode cX1_takeTorn 104 = .ok (.getfield 18, 3) := by decide +kernel
theorem dX1_takeTorn_107 : decode cX1_takeTorn 107 = .ok (.iload_n 3, 1) := by decide +kernel
theorem dX1_takeTorn_108 : decode cX1_takeTorn 108 = .ok (.invokevirtual 129, 3) := by decide +kernel
theorem dX1_takeTorn_111 : decode cX1_takeTorn 111 = .ok (.aload_n 0, 1) := by decide +kernel
theorem dX1_takeTorn_112 : decode cX1_takeTorn 112 = .ok (.getfield 18, 3) := by decide +kernel
theorem dX1_takeTorn_115 : decode cX1_takeTorn 115 = .ok (.aload_n 0, 1) := by decide +kernel
theorem dX1_takeTorn_116 : decode cX1_takeTorn 116 = .ok (.getfield 9, 3) := by decide +kernel
theorem dX1_takeTorn_119 : decode cX1_takeTorn 119 = .ok (.iload_n 1, 1) := by decide +kernel
theorem dX1_takeTorn_120 : decode cX1_takeTorn 120 = .ok (.iaload, 1) := by decide +kernel
theorem dX1_takeTorn_121 : decode cX1_takeTorn 121 = .ok (.invokevirtual 105, 3) := by decide +kernel
theorem dX1_takeTorn_124 : decode cX1_takeTorn 124 = .ok (.aload_n 0, 1) := by decide +kernel
theorem dX1_takeTorn_125 : decode cX1_takeTorn 125 = .ok (.getfield 18, 3) := by decide +kernel
theorem dX1_takeTorn_128 : decode cX1_takeTorn 128 = .ok (.aload_n 0, 1) := by decide +kernel
theorem dX1_takeTorn_129 : decode cX1_takeTorn 129 = .ok (.getfield 9, 3) := by decide +kernel
theorem dX1_takeTorn_132 : decode cX1_takeTorn 132 = .ok (.iload 4, 2) := by decide +kernel
theorem dX1_takeTorn_134 : decode cX1_takeTorn 134 = .ok (.iaload, 1) := by decide +kernel
theorem dX1_takeTorn_135 : decode cX1_takeTorn 135 = .ok (.invokevirtual 105, 3) := by decide +kernel
theorem dX1_takeTorn_138 : decode cX1_takeTorn 138 = .ok (.aload_n 0, 1) := by decide +kernel
theorem dX1_takeTorn_139 : decode cX1_takeTorn 139 = .ok (.getfield 9, 3) := by decide +kernel
theorem dX1_takeTorn_142 : decode cX1_takeTorn 142 = .ok (.iload_n 1, 1) := by decide +kernel
theorem dX1_takeTorn_143 : decode cX1_takeTorn 143 = .ok (.aload_n 0, 1) := by decide +kernel
theorem dX1_takeTorn_144 : decode cX1_takeTorn 144 = .ok (.getfield 37, 3) := by decide +kernel
theorem dX1_takeTorn_147 : decode cX1_takeTorn 147 = .ok (.getfield 122, 3) := by decide +kernel
theorem dX1_takeTorn_150 : decode cX1_takeTorn 150 = .ok (.iload_n 1, 1) := by decide +kernel
theorem dX1_takeTorn_151 : decode cX1_takeTorn 151 = .ok (.iaload, 1) := by decide +kernel
theorem dX1_takeTorn_152 : decode cX1_takeTorn 152 = .ok (.iastore, 1) := by decide +kernel
theorem dX1_takeTorn_153 : decode cX1_takeTorn 153 = .ok (.aload_n 0, 1) := by decide +kernel
theorem dX1_takeTorn_154 : decode cX1_takeTorn 154 = .ok (.getfield 9, 3) := by decide +kernel
theorem dX1_takeTorn_157 : decode cX1_takeTorn 157 = .ok (.iload 4, 2) := by decide +kernel
theorem dX1_takeTorn_159 : decode cX1_takeTorn 159 = .ok (.aload_n 0, 1) := by decide +kernel
theorem dX1_takeTorn_160 : decode cX1_takeTorn 160 = .ok (.getfield 37, 3) := by decide +kernel
theorem dX1_takeTorn_163 : decode cX1_takeTorn 163 = .ok (.getfield 122, 3) := by decide +kernel
theorem dX1_takeTorn_166 : decode cX1_takeTorn 166 = .ok (.iload_n 1, 1) := by decide +kernel
theorem dX1_takeTorn_167 : decode cX1_takeTorn 167 = .ok (.iaload, 1) := by decide +kernel
theorem dX1_takeTorn_168 : decode cX1_takeTorn 168 = .ok (.iastore, 1) := by decide +kernel
theorem dX1_takeTorn_169 : decode cX1_takeTorn 169 = .ok (.aload_n 0, 1) := by decide +kernel
theorem dX1_takeTorn_170 : decode cX1_takeTorn 170 = .ok (.dup, 1) := by decide +kernel
theorem dX1_takeTorn_171 : decode cX1_takeTorn 171 = .ok (.getfield 66, 3) := by decide +kernel
theorem dX1_takeTorn_174 : decode cX1_takeTorn 174 = .ok (.iconst 1, 1) := by decide +kernel
theorem dX1_takeTorn_175 : decode cX1_takeTorn 175 = .ok (.iload_n 1, 1) := by decide +kernel
theorem dX1_takeTorn_176 : decode cX1_takeTorn 176 = .ok (.ishl, 1) := by decide +kernel
theorem dX1_takeTorn_177 : decode cX1_takeTorn 177 = .ok (.iconst 1, 1) := by decide +kernel
theorem dX1_takeTorn_178 : decode cX1_takeTorn 178 = .ok (.iload 4, 2) := by decide +kernel
theorem dX1_takeTorn_180 : decode cX1_takeTorn 180 = .ok (.ishl, 1) := by decide +kernel
theorem dX1_takeTorn_181 : decode cX1_takeTorn 181 = .ok (.ior, 1) := by decide +kernel
theorem dX1_takeTorn_182 : decode cX1_takeTorn 182 = .ok (.ior, 1) := by decide +kernel
theorem dX1_takeTorn_183 : decode cX1_takeTorn 183 = .ok (.putfield 66, 3) := by decide +kernel
theorem dX1_takeTorn_186 : decode cX1_takeTorn 186 = .ok (.iconst 1, 1) := by decide +kernel
theorem dX1_takeTorn_187 : decode cX1_takeTorn 187 = .ok (.ireturn, 1) := by decide +kernel
theorem dX1_takeTorn_188 : decode cX1_takeTorn 188 = .ok (.iinc 4 1, 3) := by decide +kernel
theorem dX1_takeTorn_191 : decode cX1_takeTorn 191 = .ok (.goto (-161), 3) := by decide +kernel
theorem dX1_takeTorn_194 : decode cX1_takeTorn 194 = .ok (.iconst 0, 1) := by decide +kernel
theorem dX1_takeTorn_195 : decode cX1_takeTorn 195 = .ok (.ireturn, 1) := by decide +kernel
theorem dX1_keep_0 : decode cX1_keep 0 = .ok (.aload_n 0, 1) := by decide +kernel
theorem dX1_keep_1 : decode cX1_keep 1 = .ok (.iload_n 1, 1) := by decide +kernel
theorem dX1_keep_2 : decode cX1_keep 2 = .ok (.putfield 132, 3) := by decide +kernel
theorem dX1_keep_5 : decode cX1_keep 5 = .ok (.aload_n 0, 1) := by decide +kernel
theorem dX1_keep_6 : decode cX1_keep 6 = .ok (.getfield 9, 3) := by decide +kernel
theorem dX1_keep_9 : decode cX1_keep 9 = .ok (.iconst 0, 1) := by decide +kernel
theorem dX1_keep_10 : decode cX1_keep 10 = .ok (.aload_n 0, 1) := by decide +kernel
theorem dX1_keep_11 : decode cX1_keep 11 = .ok (.getfield 24, 3) := by decide +kernel
theorem dX1_keep_14 : decode cX1_keep 14 = .ok (.iload_n 1, 1) := by decide +kernel
theorem dX1_keep_15 : decode cX1_keep 15 = .ok (.aaload, 1) := by decide +kernel
theorem dX1_keep_16 : decode cX1_keep 16 = .ok (.iconst 0, 1) := by decide +kernel
theorem dX1_keep_17 : decode cX1_keep 17 = .ok (.bipush 8, 2) := by decide +kernel
theorem dX1_keep_19 : decode cX1_keep 19 = .ok (.invokestatic 55, 3) := by decide +kernel
theorem dX1_keep_22 : decode cX1_keep 22 = .ok (.aload_n 0, 1) := by decide +kernel
theorem dX1_keep_23 : decode cX1_keep 23 = .ok (.getfield 27, 3) := by decide +kernel
theorem dX1_keep_26 : decode cX1_keep 26 = .ok (.iload_n 1, 1) := by decide +kernel
theorem dX1_keep_27 : decode cX1_keep 27 = .ok (.aload_n 0, 1) := by decide +kernel
theorem dX1_keep_28 : decode cX1_keep 28 = .ok (.getfield 66, 3) := by decide +kernel
theorem dX1_keep_31 : decode cX1_keep 31 = .ok (.iastore, 1) := by decide +kernel
theorem dX1_keep_32 : decode cX1_keep 32 = .ok (.aload_n 0, 1) := by decide +kernel
theorem dX1_keep_33 : decode cX1_keep 33 = .ok (.getfield 33, 3) := by decide +kernel
theorem dX1_keep_36 : decode cX1_keep 36 = .ok (.iload_n 1, 1) := by decide +kernel
theorem dX1_keep_37 : decode cX1_keep 37 = .ok (.aaload, 1) := by decide +kernel
theorem dX1_keep_38 : decode cX1_keep 38 = .ok (.aload_n 0, 1) := by decide +kernel
theorem dX1_keep_39 : decode cX1_keep 39 = .ok (.getfield 18, 3) := by decide +kernel
theorem dX1_keep_42 : decode cX1_keep 42 = .ok (.invokevirtual 62, 3) := by decide +kernel
theorem dX1_keep_45 : decode cX1_keep 45 = .ok (.aload_n 0, 1) := by decide +kernel
theorem dX1_keep_46 : decode cX1_keep 46 = .ok (.getfield 30, 3) := by decide +kernel
theorem dX1_keep_49 : decode cX1_keep 49 = .ok (.iload_n 1, 1) := by decide +kernel
theorem dX1_keep_50 : decode cX1_keep 50 = .ok (.iconst 0, 1) := by decide +kernel
theorem dX1_keep_51 : decode cX1_keep 51 = .ok (.iastore, 1) := by decide +kernel
theorem dX1_keep_52 : decode cX1_keep 52 = .ok (.iconst 0, 1) := by decide +kernel
theorem dX1_keep_53 : decode cX1_keep 53 = .ok (.istore_n 2, 1) := by decide +kernel
theorem dX1_keep_54 : decode cX1_keep 54 = .ok (.iload_n 2, 1) := by decide +kernel
theorem dX1_keep_55 : decode cX1_keep 55 = .ok (.aload_n 0, 1) := by decide +kernel
theorem dX1_keep_56 : decode cX1_keep 56 = .ok (.getfield 37, 3) := by decide +kernel
theorem dX1_keep_59 : decode cX1_keep 59 = .ok (.getfield 102, 3) := by decide +kernel
theorem dX1_keep_62 : decode cX1_keep 62 = .ok (.if_icmp .ge 39, 3) := by decide +kernel
theorem dX1_keep_65 : decode cX1_keep 65 = .ok (.aload_n 0, 1) := by decide +kernel
theorem dX1_keep_66 : decode cX1_keep 66 = .ok (.getfield 9, 3) := by decide +kernel
theorem dX1_keep_69 : decode cX1_keep 69 = .ok (.iload_n 2, 1) := by decide +kernel
theorem dX1_keep_70 : decode cX1_keep 70 = .ok (.iaload, 1) := by decide +kernel
theorem dX1_keep_71 : decode cX1_keep 71 = .ok (.aload_n 0, 1) := by decide +kernel
theorem dX1_keep_72 : decode cX1_keep 72 = .ok (.getfield 37, 3) := by decide +kernel
theorem dX1_keep_75 : decode cX1_keep 75 = .ok (.getfield 122, 3) := by decide +kernel
theorem dX1_keep_78 : decode cX1_keep 78 = .ok (.iload_n 2, 1) := by decide +kernel
theorem dX1_keep_79 : decode cX1_keep 79 = .ok (.iaload, 1) := by decide +kernel
theorem dX1_keep_80 : decode cX1_keep 80 = .ok (.if_icmp .ne 15, 3) := by decide +kernel
theorem dX1_keep_83 : decode cX1_keep 83 = .ok (.aload_n 0, 1) := by decide +kernel
theorem dX1_keep_84 : decode cX1_keep 84 = .ok (.getfield 30, 3) := by decide +kernel
theorem dX1_keep_87 : decode cX1_keep 87 = .ok (.iload_n 1, 1) := by decide +kernel
theorem dX1_keep_88 : decode cX1_keep 88 = .ok (.dup2, 1) := by decide +kernel
theorem dX1_keep_89 : decode cX1_keep 89 = .ok (.iaload, 1) := by decide +kernel
theorem dX1_keep_90 : decode cX1_keep 90 = .ok (.iconst 1, 1) := by decide +kernel
theorem dX1_keep_91 : decode cX1_keep 91 = .ok (.iload_n 2, 1) := by decide +kernel
theorem dX1_keep_92 : decode cX1_keep 92 = .ok (.ishl, 1) := by decide +kernel
theorem dX1_keep_93 : decode cX1_keep 93 = .ok (.ior, 1) := by decide +kernel
theorem dX1_keep_94 : decode cX1_keep 94 = .ok (.iastore, 1) := by decide +kernel
theorem dX1_keep_95 : decode cX1_keep 95 = .ok (.iinc 2 1, 3) := by decide +kernel
theorem dX1_keep_98 : decode cX1_keep 98 = .ok (.goto (-44), 3) := by decide +kernel
theorem dX1_keep_101 : decode cX1_keep 101 = .ok (.return_, 1) := by decide +kernel
theorem dX1_hasOn_0 : decode cX1_hasOn 0 = .ok (.aload_n 0, 1) := by decide +kernel
theorem dX1_hasOn_1 : decode cX1_hasOn 1 = .ok (.getfield 24, 3) := by decide +kernel
theorem dX1_hasOn_4 : decode cX1_hasOn 4 = .ok (.iload_n 1, 1) := by decide +kernel
theorem dX1_hasOn_5 : decode cX1_hasOn 5 = .ok (.aload_n 0, 1) := by decide +kernel
theorem dX1_hasOn_6 : decode cX1_hasOn 6 = .ok (.getfield 132, 3) := by decide +kernel
theorem dX1_hasOn_9 : decode cX1_hasOn 9 = .ok (.invokestatic 135, 3) := by decide +kernel
theorem dX1_hasOn_12 : decode cX1_hasOn 12 = .ok (.aaload, 1) := by decide +kernel
theorem dX1_hasOn_13 : decode cX1_hasOn 13 = .ok (.iload_n 2, 1) := by decide +kernel
theorem dX1_hasOn_14 : decode cX1_hasOn 14 = .ok (.iaload, 1) := by decide +kernel
theorem dX1_hasOn_15 : decode cX1_hasOn 15 = .ok (.ireturn, 1) := by decide +kernel
theorem dX1_tornOn_0 : decode cX1_tornOn 0 = .ok (.aload_n 0, 1) := by decide +kernel
theorem dX1_tornOn_1 : decode cX1_tornOn 1 = .ok (.getfield 27, 3) := by decide +kernel
theorem dX1_tornOn_4 : decode cX1_tornOn 4 = .ok (.iload_n 1, 1) := by decide +kernel
theorem dX1_tornOn_5 : decode cX1_tornOn 5 = .ok (.aload_n 0, 1) := by decide +kernel
theorem dX1_tornOn_6 : decode cX1_tornOn 6 = .ok (.getfield 132, 3) := by decide +kernel
theorem dX1_tornOn_9 : decode cX1_tornOn 9 = .ok (.invokestatic 135, 3) := by decide +kernel
theorem dX1_tornOn_12 : decode cX1_tornOn 12 = .ok (.iaload, 1) := by decide +kernel
theorem dX1_tornOn_13 : decode cX1_tornOn 13 = .ok (.ireturn, 1) := by decide +kernel
theorem dX1_servedOn_0 : decode cX1_servedOn 0 = .ok (.aload_n 0, 1) := by decide +kernel
theorem dX1_servedOn_1 : decode cX1_servedOn 1 = .ok (.getfield 30, 3) := by decide +kernel
theorem dX1_servedOn_4 : decode cX1_servedOn 4 = .ok (.iload_n 1, 1) := by decide +kernel
theorem dX1_servedOn_5 : decode cX1_servedOn 5 = .ok (.aload_n 0, 1) := by decide +kernel
theorem dX1_servedOn_6 : decode cX1_servedOn 6 = .ok (.getfield 132, 3) := by decide +kernel
theorem dX1_servedOn_9 : decode cX1_servedOn 9 = .ok (.invokestatic 135, 3) := by decide +kernel
theorem dX1_servedOn_12 : decode cX1_servedOn 12 = .ok (.iaload, 1) := by decide +kernel
theorem dX1_servedOn_13 : decode cX1_servedOn 13 = .ok (.ireturn, 1) := by decide +kernel
theorem dX1_bagOn_0 : decode cX1_bagOn 0 = .ok (.aload_n 0, 1) := by decide +kernel
theorem dX1_bagOn_1 : decode cX1_bagOn 1 = .ok (.getfield 33, 3) := by decide +kernel
theorem dX1_bagOn_4 : decode cX1_bagOn 4 = .ok (.iload_n 1, 1) := by decide +kernel
theorem dX1_bagOn_5 : decode cX1_bagOn 5 = .ok (.aload_n 0, 1) := by decide +kernel
theorem dX1_bagOn_6 : decode cX1_bagOn 6 = .ok (.getfield 132, 3) := by decide +kernel
theorem dX1_bagOn_9 : decode cX1_bagOn 9 = .ok (.invokestatic 135, 3) := by decide +kernel
theorem dX1_bagOn_12 : decode cX1_bagOn 12 = .ok (.aaload, 1) := by decide +kernel
theorem dX1_bagOn_13 : decode cX1_bagOn 13 = .ok (.areturn, 1) := by decide +kernel
theorem dX1_servedAtLast_0 : decode cX1_servedAtLast 0 = .ok (.aload_n 0, 1) := by decide +kernel
theorem dX1_servedAtLast_1 : decode cX1_servedAtLast 1 = .ok (.getfield 30, 3) := by decide +kernel
theorem dX1_servedAtLast_4 : decode cX1_servedAtLast 4 = .ok (.aload_n 0, 1) := by decide +kernel
theorem dX1_servedAtLast_5 : decode cX1_servedAtLast 5 = .ok (.getfield 132, 3) := by decide +kernel
theorem dX1_servedAtLast_8 : decode cX1_servedAtLast 8 = .ok (.iaload, 1) := by decide +kernel
theorem dX1_servedAtLast_9 : decode cX1_servedAtLast 9 = .ok (.invokestatic 141, 3) := by decide +kernel
theorem dX1_servedAtLast_12 : decode cX1_servedAtLast 12 = .ok (.ireturn, 1) := by decide +kernel
theorem dX2_init_0 : decode cX2_init 0 = .ok (.aload_n 0, 1) := by decide +kernel
theorem dX2_init_1 : decode cX2_init 1 = .ok (.invokespecial 3, 3) := by decide +kernel
theorem dX2_init_4 : decode cX2_init 4 = .ok (.aload_n 0, 1) := by decide +kernel
theorem dX2_init_5 : decode cX2_init 5 = .ok (.iconst (-1), 1) := by decide +kernel
theorem dX2_init_6 : decode cX2_init 6 = .ok (.putfield 9, 3) := by decide +kernel
theorem dX2_init_9 : decode cX2_init 9 = .ok (.aload_n 0, 1) := by decide +kernel
theorem dX2_init_10 : decode cX2_init 10 = .ok (.bipush 60, 2) := by decide +kernel
theorem dX2_init_12 : decode cX2_init 12 = .ok (.newarray .int, 2) := by decide +kernel
theorem dX2_init_14 : decode cX2_init 14 = .ok (.putfield 15, 3) := by decide +kernel
theorem dX2_init_17 : decode cX2_init 17 = .ok (.return_, 1) := by decide +kernel
theorem dX2_isLost_0 : decode cX2_isLost 0 = .ok (.aload_n 0, 1) := by decide +kernel
theorem dX2_isLost_1 : decode cX2_isLost 1 = .ok (.getfield 9, 3) := by decide +kernel
theorem dX2_isLost_4 : decode cX2_isLost 4 = .ok (.iconst (-1), 1) := by decide +kernel
theorem dX2_isLost_5 : decode cX2_isLost 5 = .ok (.if_icmp .ne 7, 3) := by decide +kernel
theorem dX2_isLost_8 : decode cX2_isLost 8 = .ok (.iconst 1, 1) := by decide +kernel
theorem dX2_isLost_9 : decode cX2_isLost 9 = .ok (.goto 4, 3) := by decide +kernel
theorem dX2_isLost_12 : decode cX2_isLost 12 = .ok (.iconst 0, 1) := by decide +kernel
theorem dX2_isLost_13 : decode cX2_isLost 13 = .ok (.ireturn, 1) := by decide +kernel
theorem dX2_startAnew_0 : decode cX2_startAnew 0 = .ok (.aload_n 0, 1) := by decide +kernel
theorem dX2_startAnew_1 : decode cX2_startAnew 1 = .ok (.iload_n 1, 1) := by decide +kernel
theorem dX2_startAnew_2 : decode cX2_startAnew 2 = .ok (.putfield 9, 3) := by decide +kernel
theorem dX2_startAnew_5 : decode cX2_startAnew 5 = .ok (.aload_n 0, 1) := by decide +kernel
theorem dX2_startAnew_6 : decode cX2_startAnew 6 = .ok (.iload_n 2, 1) := by decide +kernel
theorem dX2_startAnew_7 : decode cX2_startAnew 7 = .ok (.putfield 19, 3) := by decide +kernel
theorem dX2_startAnew_10 : decode cX2_startAnew 10 = .ok (.aload_n 0, 1) := by decide +kernel
theorem dX2_startAnew_11 : decode cX2_startAnew 11 = .ok (.getfield 15, 3) := by decide +kernel
theorem dX2_startAnew_14 : decode cX2_startAnew 14 = .ok (.iconst 0, 1) := by decide +kernel
theorem dX2_startAnew_15 : decode cX2_startAnew 15 = .ok (.invokestatic 22, 3) := by decide +kernel
theorem dX2_startAnew_18 : decode cX2_startAnew 18 = .ok (.return_, 1) := by decide +kernel
theorem dX2_giveUp_0 : decode cX2_giveUp 0 = .ok (.aload_n 0, 1) := by decide +kernel
theorem dX2_giveUp_1 : decode cX2_giveUp 1 = .ok (.iconst (-1), 1) := by decide +kernel
theorem dX2_giveUp_2 : decode cX2_giveUp 2 = .ok (.putfield 9, 3) := by decide +kernel
theorem dX2_giveUp_5 : decode cX2_giveUp 5 = .ok (.aload_n 0, 1) := by decide +kernel
theorem dX2_giveUp_6 : decode cX2_giveUp 6 = .ok (.iconst 0, 1) := by decide +kernel
theorem dX2_giveUp_7 : decode cX2_giveUp 7 = .ok (.putfield 19, 3) := by decide +kernel
theorem dX2_giveUp_10 : decode cX2_giveUp 10 = .ok (.return_, 1) := by decide +kernel
theorem dX2_hasItems_0 : decode cX2_hasItems 0 = .ok (.iload_n 1, 1) := by decide +kernel
theorem dX2_hasItems_1 : decode cX2_hasItems 1 = .ok (.ifCond .lt 29, 3) := by decide +kernel
theorem dX2_hasItems_4 : decode cX2_hasItems 4 = .ok (.iload_n 2, 1) := by decide +kernel
theorem dX2_hasItems_5 : decode cX2_hasItems 5 = .ok (.ifCond .lt 25, 3) := by decide +kernel
theorem dX2_hasItems_8 : decode cX2_hasItems 8 = .ok (.iload_n 1, 1) := by decide +kernel
theorem dX2_hasItems_9 : decode cX2_hasItems 9 = .ok (.aload_n 0, 1) := by decide +kernel
theorem dX2_hasItems_10 : decode cX2_hasItems 10 = .ok (.getfield 19, 3) := by decide +kernel
theorem dX2_hasItems_13 : decode cX2_hasItems 13 = .ok (.if_icmp .gt 17, 3) := by decide +kernel
theorem dX2_hasItems_16 : decode cX2_hasItems 16 = .ok (.iload_n 2, 1) := by decide +kernel
theorem dX2_hasItems_17 : decode cX2_hasItems 17 = .ok (.aload_n 0, 1) := by decide +kernel
theorem dX2_hasItems_18 : decode cX2_hasItems 18 = .ok (.getfield 19, 3) := by decide +kernel
theorem dX2_hasItems_21 : decode cX2_hasItems 21 = .ok (.iload_n 1, 1) := by decide +kernel
theorem dX2_hasItems_22 : decode cX2_hasItems 22 = .ok (.isub, 1) := by decide +kernel
theorem dX2_hasItems_23 : decode cX2_hasItems 23 = .ok (.if_icmp .gt 7, 3) := by decide +kernel
theorem dX2_hasItems_26 : decode cX2_hasItems 26 = .ok (.iconst 1, 1) := by decide +kernel
theorem dX2_hasItems_27 : decode cX2_hasItems 27 = .ok (.goto 4, 3) := by decide +kernel
theorem dX2_hasItems_30 : decode cX2_hasItems 30 = .ok (.iconst 0, 1) := by decide +kernel
theorem dX2_hasItems_31 : decode cX2_hasItems 31 = .ok (.ireturn, 1) := by decide +kernel
theorem dX2_put_0 : decode cX2_put 0 = .ok (.iload_n 1, 1) := by decide +kernel
theorem dX2_put_1 : decode cX2_put 1 = .ok (.ifCond .lt 43, 3) := by decide +kernel
theorem dX2_put_4 : decode cX2_put 4 = .ok (.iload_n 1, 1) := by decide +kernel
theorem dX2_put_5 : decode cX2_put 5 = .ok (.aload_n 0, 1) := by decide +kernel
theorem dX2_put_6 : decode cX2_put 6 = .ok (.getfield 19, 3) := by decide +kernel
theorem dX2_put_9 : decode cX2_put 9 = .ok (.if_icmp .ge 35, 3) := by decide +kernel
theorem dX2_put_12 : decode cX2_put 12 = .ok (.aload_n 0, 1) := by decide +kernel
theorem dX2_put_13 : decode cX2_put 13 = .ok (.getfield 15, 3) := by decide +kernel
theorem dX2_put_16 : decode cX2_put 16 = .ok (.iload_n 1, 1) := by decide +kernel
theorem dX2_put_17 : decode cX2_put 17 = .ok (.aload_n 0, 1) := by decide +kernel
theorem dX2_put_18 : decode cX2_put 18 = .ok (.getfield 9, 3) := by decide +kernel
theorem dX2_put_21 : decode cX2_put 21 = .ok (.ifCond .ne 8, 3) := by decide +kernel
theorem dX2_put_24 : decode cX2_put 24 = .ok (.iload_n 2, 1) := by decide +kernel
theorem dX2_put_25 : decode cX2_put 25 = .ok (.i2b, 1) := by decide +kernel
theorem dX2_put_26 : decode cX2_put 26 = .ok (.goto 17, 3) := by decide +kernel
theorem dX2_put_29 : decode cX2_put 29 = .ok (.aload_n 0, 1) := by decide +kernel
theorem dX2_put_30 : decode cX2_put 30 = .ok (.getfield 9, 3) := by decide +kernel
theorem dX2_put_33 : decode cX2_put 33 = .ok (.iconst 1, 1) := by decide +kernel
theorem dX2_put_34 : decode cX2_put 34 = .ok (.if_icmp .ne 8, 3) := by decide +kernel
theorem dX2_put_37 : decode cX2_put 37 = .ok (.iload_n 2, 1) := by decide +kernel
theorem dX2_put_38 : decode cX2_put 38 = .ok (.i2s, 1) := by decide +kernel
theorem dX2_put_39 : decode cX2_put 39 = .ok (.goto 4, 3) := by decide +kernel
theorem dX2_put_42 : decode cX2_put 42 = .ok (.iload_n 2, 1) := by decide +kernel
theorem dX2_put_43 : decode cX2_put 43 = .ok (.iastore, 1) := by decide +kernel
theorem dX2_put_44 : decode cX2_put 44 = .ok (.return_, 1) := by decide +kernel
theorem dX3_init_0 : decode cX3_init 0 = .ok (.aload_n 0, 1) := by decide +kernel
theorem dX3_init_1 : decode cX3_init 1 = .ok (.invokespecial 3, 3) := by decide +kernel
theorem dX3_init_4 : decode cX3_init 4 = .ok (.aload_n 0, 1) := by decide +kernel
theorem dX3_init_5 : decode cX3_init 5 = .ok (.bipush 8, 2) := by decide +kernel
theorem dX3_init_7 : decode cX3_init 7 = .ok (.newarray .int, 2) := by decide +kernel
theorem dX3_init_9 : decode cX3_init 9 = .ok (.putfield 9, 3) := by decide +kernel
theorem dX3_init_12 : decode cX3_init 12 = .ok (.aload_n 0, 1) := by decide +kernel
theorem dX3_init_13 : decode cX3_init 13 = .ok (.bipush 8, 2) := by decide +kernel
theorem dX3_init_15 : decode cX3_init 15 = .ok (.newarray .int, 2) := by decide +kernel
theorem dX3_init_17 : decode cX3_init 17 = .ok (.putfield 15, 3) := by decide +kernel
theorem dX3_init_20 : decode cX3_init 20 = .ok (.aload_n 0, 1) := by decide +kernel
theorem dX3_init_21 : decode cX3_init 21 = .ok (.bipush 8, 2) := by decide +kernel
theorem dX3_init_23 : decode cX3_init 23 = .ok (.newarray .int, 2) := by decide +kernel
theorem dX3_init_25 : decode cX3_init 25 = .ok (.putfield 18, 3) := by decide +kernel
theorem dX3_init_28 : decode cX3_init 28 = .ok (.return_, 1) := by decide +kernel
theorem dX3_mayBe_0 : decode cX3_mayBe 0 = .ok (.iload_n 0, 1) := by decide +kernel
theorem dX3_mayBe_1 : decode cX3_mayBe 1 = .ok (.bipush 10, 2) := by decide +kernel
theorem dX3_mayBe_3 : decode cX3_mayBe 3 = .ok (.invokestatic 21, 3) := by decide +kernel
theorem dX3_mayBe_6 : decode cX3_mayBe 6 = .ok (.ifCond .ne 25, 3) := by decide +kernel
theorem dX3_mayBe_9 : decode cX3_mayBe 9 = .ok (.iload_n 1, 1) := by decide +kernel
theorem dX3_mayBe_10 : decode cX3_mayBe 10 = .ok (.bipush 8, 2) := by decide +kernel
theorem dX3_mayBe_12 : decode cX3_mayBe 12 = .ok (.invokestatic 21, 3) := by decide +kernel
theorem dX3_mayBe_15 : decode cX3_mayBe 15 = .ok (.ifCond .ne 16, 3) := by decide +kernel
theorem dX3_mayBe_18 : decode cX3_mayBe 18 = .ok (.iload_n 2, 1) := by decide +kernel
theorem dX3_mayBe_19 : decode cX3_mayBe 19 = .ok (.bipush 9, 2) := by decide +kernel
theorem dX3_mayBe_21 : decode cX3_mayBe 21 = .ok (.invokestatic 21, 3) := by decide +kernel
theorem dX3_mayBe_24 : decode cX3_mayBe 24 = .ok (.ifCond .ne 7, 3) := by decide +kernel
theorem dX3_mayBe_27 : decode cX3_mayBe 27 = .ok (.iconst 1, 1) := by decide +kernel
theorem dX3_mayBe_28 : decode cX3_mayBe 28 = .ok (.goto 4, 3) := by decide +kernel
theorem dX3_mayBe_31 : decode cX3_mayBe 31 = .ok (.iconst 0, 1) := by decide +kernel
theorem dX3_mayBe_32 : decode cX3_mayBe 32 = .ok (.ireturn, 1) := by decide +kernel
theorem dX3_isFull_0 : decode cX3_isFull 0 = .ok (.aload_n 0, 1) := by decide +kernel
theorem dX3_isFull_1 : decode cX3_isFull 1 = .ok (.getfield 25, 3) := by decide +kernel
theorem dX3_isFull_4 : decode cX3_isFull 4 = .ok (.bipush 8, 2) := by decide +kernel
theorem dX3_isFull_6 : decode cX3_isFull 6 = .ok (.if_icmp .lt 7, 3) := by decide +kernel
theorem dX3_isFull_9 : decode cX3_isFull 9 = .ok (.iconst 1, 1) := by decide +kernel
theorem dX3_isFull_10 : decode cX3_isFull 10 = .ok (.goto 4, 3) := by decide +kernel
theorem dX3_isFull_13 : decode cX3_isFull 13 = .ok (.iconst 0, 1) := by decide +kernel
theorem dX3_isFull_14 : decode cX3_isFull 14 = .ok (.ireturn, 1) := by decide +kernel
theorem dX3_append_0 : decode cX3_append 0 = .ok (.aload_n 0, 1) := by decide +kernel
theorem dX3_append_1 : decode cX3_append 1 = .ok (.invokevirtual 29, 3) := by decide +kernel
theorem dX3_append_4 : decode cX3_append 4 = .ok (.ifCond .ne 43, 3) := by decide +kernel
theorem dX3_append_7 : decode cX3_append 7 = .ok (.aload_n 0, 1) := by decide +kernel
theorem dX3_append_8 : decode cX3_append 8 = .ok (.getfield 9, 3) := by decide +kernel
theorem dX3_append_11 : decode cX3_append 11 = .ok (.aload_n 0, 1) := by decide +kernel
theorem dX3_append_12 : decode cX3_append 12 = .ok (.getfield 25, 3) := by decide +kernel
theorem dX3_append_15 : decode cX3_append 15 = .ok (.iload_n 1, 1) := by decide +kernel
theorem dX3_append_16 : decode cX3_append 16 = .ok (.iastore, 1) := by decide +kernel
theorem dX3_append_17 : decode cX3_append 17 = .ok (.aload_n 0, 1) := by decide +kernel
theorem dX3_append_18 : decode cX3_append 18 = .ok (.getfield 15, 3) := by decide +kernel
theorem dX3_append_21 : decode cX3_append 21 = .ok (.aload_n 0, 1) := by decide +kernel
theorem dX3_append_22 : decode cX3_append 22 = .ok (.getfield 25, 3) := by decide +kernel
theorem dX3_append_25 : decode cX3_append 25 = .ok (.iload_n 2, 1) := by decide +kernel
theorem dX3_append_26 : decode cX3_append 26 = .ok (.iastore, 1) := by decide +kernel
theorem dX3_append_27 : decode cX3_append 27 = .ok (.aload_n 0, 1) := by decide +kernel
theorem dX3_append_28 : decode cX3_append 28 = .ok (.getfield 18, 3) := by decide +kernel
theorem dX3_append_31 : decode cX3_append 31 = .ok (.aload_n 0, 1) := by decide +kernel
theorem dX3_append_32 : decode cX3_append 32 = .ok (.getfield 25, 3) := by decide +kernel
theorem dX3_append_35 : decode cX3_append 35 = .ok (.iload_n 3, 1) := by decide +kernel
theorem dX3_append_36 : decode cX3_append 36 = .ok (.iastore, 1) := by decide +kernel
theorem dX3_append_37 : decode cX3_append 37 = .ok (.aload_n 0, 1) := by decide +kernel
theorem dX3_append_38 : decode cX3_append 38 = .ok (.dup, 1) := by decide +kernel
theorem dX3_append_39 : decode cX3_append 39 = .ok (.getfield 25, 3) := by decide +kernel
theorem dX3_append_42 : decode cX3_append 42 = .ok (.iconst 1, 1) := by decide +kernel
theorem dX3_append_43 : decode cX3_append 43 = .ok (.iadd, 1) := by decide +kernel
theorem dX3_append_44 : decode cX3_append 44 = .ok (.putfield 25, 3) := by decide +kernel
theorem dX3_append_47 : decode cX3_append 47 = .ok (.return_, 1) := by decide +kernel
theorem dX3_comeOutIn_0 : decode cX3_comeOutIn 0 = .ok (.iconst 0, 1) := by decide +kernel
theorem dX3_comeOutIn_1 : decode cX3_comeOutIn 1 = .ok (.istore_n 3, 1) := by decide +kernel
theorem dX3_comeOutIn_2 : decode cX3_comeOutIn 2 = .ok (.iload_n 3, 1) := by decide +kernel
theorem dX3_comeOutIn_3 : decode cX3_comeOutIn 3 = .ok (.aload_n 0, 1) := by decide +kernel
theorem dX3_comeOutIn_4 : decode cX3_comeOutIn 4 = .ok (.getfield 25, 3) := by decide +kernel
theorem dX3_comeOutIn_7 : decode cX3_comeOutIn 7 = .ok (.if_icmp .ge 65, 3) := by decide +kernel
theorem dX3_comeOutIn_10 : decode cX3_comeOutIn 10 = .ok (.aload_n 0, 1) := by decide +kernel
theorem dX3_comeOutIn_11 : decode cX3_comeOutIn 11 = .ok (.getfield 18, 3) := by decide +kernel
theorem dX3_comeOutIn_14 : decode cX3_comeOutIn 14 = .ok (.iload_n 3, 1) := by decide +kernel
theorem dX3_comeOutIn_15 : decode cX3_comeOutIn 15 = .ok (.iaload, 1) := by decide +kernel
theorem dX3_comeOutIn_16 : decode cX3_comeOutIn 16 = .ok (.bipush 8, 2) := by decide +kernel
theorem dX3_comeOutIn_18 : decode cX3_comeOutIn 18 = .ok (.if_icmp .ne 7, 3) := by decide +kernel
theorem dX3_comeOutIn_21 : decode cX3_comeOutIn 21 = .ok (.iconst (-1), 1) := by decide +kernel
theorem dX3_comeOutIn_22 : decode cX3_comeOutIn 22 = .ok (.goto 9, 3) := by decide +kernel
theorem dX3_comeOutIn_25 : decode cX3_comeOutIn 25 = .ok (.aload_n 0, 1) := by decide +kernel
theorem dX3_comeOutIn_26 : decode cX3_comeOutIn 26 = .ok (.getfield 18, 3) := by decide +kernel
theorem dX3_comeOutIn_29 : decode cX3_comeOutIn 29 = .ok (.iload_n 3, 1) := by decide +kernel
theorem dX3_comeOutIn_30 : decode cX3_comeOutIn 30 = .ok (.iaload, 1) := by decide +kernel
theorem dX3_comeOutIn_31 : decode cX3_comeOutIn 31 = .ok (.istore 4, 2) := by decide +kernel
theorem dX3_comeOutIn_33 : decode cX3_comeOutIn 33 = .ok (.aload_n 0, 1) := by decide +kernel
theorem dX3_comeOutIn_34 : decode cX3_comeOutIn 34 = .ok (.getfield 15, 3) := by decide +kernel
theorem dX3_comeOutIn_37 : decode cX3_comeOutIn 37 = .ok (.iload_n 3, 1) := by decide +kernel
theorem dX3_comeOutIn_38 : decode cX3_comeOutIn 38 = .ok (.iaload, 1) := by decide +kernel
theorem dX3_comeOutIn_39 : decode cX3_comeOutIn 39 = .ok (.iload_n 2, 1) := by decide +kernel
theorem dX3_comeOutIn_40 : decode cX3_comeOutIn 40 = .ok (.if_icmp .ge 24, 3) := by decide +kernel
theorem dX3_comeOutIn_43 : decode cX3_comeOutIn 43 = .ok (.aload_n 1, 1) := by decide +kernel
theorem dX3_comeOutIn_44 : decode cX3_comeOutIn 44 = .ok (.aload_n 0, 1) := by decide +kernel
theorem dX3_comeOutIn_45 : decode cX3_comeOutIn 45 = .ok (.getfield 9, 3) := by decide +kernel
theorem dX3_comeOutIn_48 : decode cX3_comeOutIn 48 = .ok (.iload_n 3, 1) := by decide +kernel
theorem dX3_comeOutIn_49 : decode cX3_comeOutIn 49 = .ok (.iaload, 1) := by decide +kernel
theorem dX3_comeOutIn_50 : decode cX3_comeOutIn 50 = .ok (.aload_n 0, 1) := by decide +kernel
theorem dX3_comeOutIn_51 : decode cX3_comeOutIn 51 = .ok (.getfield 15, 3) := by decide +kernel
theorem dX3_comeOutIn_54 : decode cX3_comeOutIn 54 = .ok (.iload_n 3, 1) := by decide +kernel
theorem dX3_comeOutIn_55 : decode cX3_comeOutIn 55 = .ok (.iaload, 1) := by decide +kernel
theorem dX3_comeOutIn_56 : decode cX3_comeOutIn 56 = .ok (.invokevirtual 33, 3) := by decide +kernel
theorem dX3_comeOutIn_59 : decode cX3_comeOutIn 59 = .ok (.iload 4, 2) := by decide +kernel
theorem dX3_comeOutIn_61 : decode cX3_comeOutIn 61 = .ok (.if_icmp .eq 5, 3) := by decide +kernel
theorem dX3_comeOutIn_64 : decode cX3_comeOutIn 64 = .ok (.iconst 0, 1) := by decide +kernel
theorem dX3_comeOutIn_65 : decode cX3_comeOutIn 65 = .ok (.ireturn, 1) := by decide +kernel
theorem dX3_comeOutIn_66 : decode cX3_comeOutIn 66 = .ok (.iinc 3 1, 3) := by decide +kernel
theorem dX3_comeOutIn_69 : decode cX3_comeOutIn 69 = .ok (.goto (-67), 3) := by decide +kernel
theorem dX3_comeOutIn_72 : decode cX3_comeOutIn 72 = .ok (.iconst 1, 1) := by decide +kernel
theorem dX3_comeOutIn_73 : decode cX3_comeOutIn 73 = .ok (.ireturn, 1) := by decide +kernel
theorem dX4_init_0 : decode cX4_init 0 = .ok (.aload_n 0, 1) := by decide +kernel
theorem dX4_init_1 : decode cX4_init 1 = .ok (.invokespecial 3, 3) := by decide +kernel
theorem dX4_init_4 : decode cX4_init 4 = .ok (.aload_n 0, 1) := by decide +kernel
theorem dX4_init_5 : decode cX4_init 5 = .ok (.sipush 1024, 3) := by decide +kernel
theorem dX4_init_8 : decode cX4_init 8 = .ok (.newarray .long, 2) := by decide +kernel
theorem dX4_init_10 : decode cX4_init 10 = .ok (.putfield 9, 3) := by decide +kernel
theorem dX4_init_13 : decode cX4_init 13 = .ok (.aload_n 0, 1) := by decide +kernel
theorem dX4_init_14 : decode cX4_init 14 = .ok (.sipush 1024, 3) := by decide +kernel
theorem dX4_init_17 : decode cX4_init 17 = .ok (.newarray .int, 2) := by decide +kernel
theorem dX4_init_19 : decode cX4_init 19 = .ok (.putfield 15, 3) := by decide +kernel
theorem dX4_init_22 : decode cX4_init 22 = .ok (.return_, 1) := by decide +kernel
theorem dX4_startAnew_0 : decode cX4_startAnew 0 = .ok (.aload_n 0, 1) := by decide +kernel
theorem dX4_startAnew_1 : decode cX4_startAnew 1 = .ok (.dup, 1) := by decide +kernel
theorem dX4_startAnew_2 : decode cX4_startAnew 2 = .ok (.getfield 19, 3) := by decide +kernel
theorem dX4_startAnew_5 : decode cX4_startAnew 5 = .ok (.iconst 1, 1) := by decide +kernel
theorem dX4_startAnew_6 : decode cX4_startAnew 6 = .ok (.iadd, 1) := by decide +kernel
theorem dX4_startAnew_7 : decode cX4_startAnew 7 = .ok (.putfield 19, 3) := by decide +kernel
theorem dX4_startAnew_10 : decode cX4_startAnew 10 = .ok (.aload_n 0, 1) := by decide +kernel
theorem dX4_startAnew_11 : decode cX4_startAnew 11 = .ok (.iconst 0, 1) := by decide +kernel
theorem dX4_startAnew_12 : decode cX4_startAnew 12 = .ok (.putfield 23, 3) := by decide +kernel
theorem dX4_startAnew_15 : decode cX4_startAnew 15 = .ok (.iconst 0, 1) := by decide +kernel
theorem dX4_startAnew_16 : decode cX4_startAnew 16 = .ok (.istore_n 2, 1) := by decide +kernel
theorem dX4_startAnew_17 : decode cX4_startAnew 17 = .ok (.iload_n 2, 1) := by decide +kernel
theorem dX4_startAnew_18 : decode cX4_startAnew 18 = .ok (.aload_n 1, 1) := by decide +kernel
theorem dX4_startAnew_19 : decode cX4_startAnew 19 = .ok (.getfield 26, 3) := by decide +kernel
theorem dX4_startAnew_22 : decode cX4_startAnew 22 = .ok (.if_icmp .ge 62, 3) := by decide +kernel
theorem dX4_startAnew_25 : decode cX4_startAnew 25 = .ok (.aload_n 1, 1) := by decide +kernel
theorem dX4_startAnew_26 : decode cX4_startAnew 26 = .ok (.iload_n 2, 1) := by decide +kernel
theorem dX4_startAnew_27 : decode cX4_startAnew 27 = .ok (.aload_n 1, 1) := by decide +kernel
theorem dX4_startAnew_28 : decode cX4_startAnew 28 = .ok (.getfield 31, 3) := by decide +kernel
theorem dX4_startAnew_31 : decode cX4_startAnew 31 = .ok (.iload_n 2, 1) := by decide +kernel
theorem dX4_startAnew_32 : decode cX4_startAnew 32 = .ok (.iaload, 1) := by decide +kernel
theorem dX4_startAnew_33 : decode cX4_startAnew 33 = .ok (.aload_n 1, 1) := by decide +kernel
theorem dX4_startAnew_34 : decode cX4_startAnew 34 = .ok (.getfield 34, 3) := by decide +kernel
theorem dX4_startAnew_37 : decode cX4_startAnew 37 = .ok (.invokevirtual 37, 3) := by decide +kernel
theorem dX4_startAnew_40 : decode cX4_startAnew 40 = .ok (.ifCond .eq 38, 3) := by decide +kernel
theorem dX4_startAnew_43 : decode cX4_startAnew 43 = .ok (.iconst 0, 1) := by decide +kernel
theorem dX4_startAnew_44 : decode cX4_startAnew 44 = .ok (.istore_n 3, 1) := by decide +kernel
theorem dX4_startAnew_45 : decode cX4_startAnew 45 = .ok (.iload_n 3, 1) := by decide +kernel
theorem dX4_startAnew_46 : decode cX4_startAnew 46 = .ok (.bipush 10, 2) := by decide +kernel
theorem dX4_startAnew_48 : decode cX4_startAnew 48 = .ok (.if_icmp .ge 30, 3) := by decide +kernel
theorem dX4_startAnew_51 : decode cX4_startAnew 51 = .ok (.aload_n 0, 1) := by decide +kernel
theorem dX4_startAnew_52 : decode cX4_startAnew 52 = .ok (.dup, 1) := by decide +kernel
theorem dX4_startAnew_53 : decode cX4_startAnew 53 = .ok (.getfield 23, 3) := by decide +kernel
theorem dX4_startAnew_56 : decode cX4_startAnew 56 = .ok (.aload_n 1, 1) := by decide +kernel
theorem dX4_startAnew_57 : decode cX4_startAnew 57 = .ok (.getfield 41, 3) := by decide +kernel
theorem dX4_startAnew_60 : decode cX4_startAnew 60 = .ok (.iload_n 3, 1) := by decide +kernel
theorem dX4_startAnew_61 : decode cX4_startAnew 61 = .ok (.iaload, 1) := by decide +kernel
theorem dX4_startAnew_62 : decode cX4_startAnew 62 = .ok (.iload_n 2, 1) := by decide +kernel
theorem dX4_startAnew_63 : decode cX4_startAnew 63 = .ok (.ishr, 1) := by decide +kernel
theorem dX4_startAnew_64 : decode cX4_startAnew 64 = .ok (.iconst 1, 1) := by decide +kernel
theorem dX4_startAnew_65 : decode cX4_startAnew 65 = .ok (.iand, 1) := by decide +kernel
theorem dX4_startAnew_66 : decode cX4_startAnew 66 = .ok (.iload_n 3, 1) := by decide +kernel
theorem dX4_startAnew_67 : decode cX4_startAnew 67 = .ok (.ishl, 1) := by decide +kernel
theorem dX4_startAnew_68 : decode cX4_startAnew 68 = .ok (.ior, 1) := by decide +kernel
theorem dX4_startAnew_69 : decode cX4_startAnew 69 = .ok (.putfield 23, 3) := by decide +kernel
theorem dX4_startAnew_72 : decode cX4_startAnew 72 = .ok (.iinc 3 1, 3) := by decide +kernel
theorem dX4_startAnew_75 : decode cX4_startAnew 75 = .ok (.goto (-30), 3) := by decide +kernel
theorem dX4_startAnew_78 : decode cX4_startAnew 78 = .ok (.iinc 2 1, 3) := by decide +kernel
theorem dX4_startAnew_81 : decode cX4_startAnew 81 = .ok (.goto (-64), 3) := by decide +kernel
theorem dX4_startAnew_84 : decode cX4_startAnew 84 = .ok (.return_, 1) := by decide +kernel
theorem dX4_servedBy_0 : decode cX4_servedBy 0 = .ok (.iload_n 1, 1) := by decide +kernel
theorem dX4_servedBy_1 : decode cX4_servedBy 1 = .ok (.aload_n 0, 1) := by decide +kernel
theorem dX4_servedBy_2 : decode cX4_servedBy 2 = .ok (.getfield 23, 3) := by decide +kernel
theorem dX4_servedBy_5 : decode cX4_servedBy 5 = .ok (.iand, 1) := by decide +kernel
theorem dX4_servedBy_6 : decode cX4_servedBy 6 = .ok (.istore 4, 2) := by decide +kernel
theorem dX4_servedBy_8 : decode cX4_servedBy 8 = .ok (.aload_n 0, 1) := by decide +kernel
theorem dX4_servedBy_9 : decode cX4_servedBy 9 = .ok (.getfield 15, 3) := by decide +kernel
theorem dX4_servedBy_12 : decode cX4_servedBy 12 = .ok (.iload 4, 2) := by decide +kernel
theorem dX4_servedBy_14 : decode cX4_servedBy 14 = .ok (.iaload, 1) := by decide +kernel
theorem dX4_servedBy_15 : decode cX4_servedBy 15 = .ok (.aload_n 0, 1) := by decide +kernel
theorem dX4_servedBy_16 : decode cX4_servedBy 16 = .ok (.getfield 19, 3) := by decide +kernel
theorem dX4_servedBy_19 : decode cX4_servedBy 19 = .ok (.if_icmp .eq 75, 3) := by decide +kernel
theorem dX4_servedBy_22 : decode cX4_servedBy 22 = .ok (.aload_n 3, 1) := by decide +kernel
theorem dX4_servedBy_23 : decode cX4_servedBy 23 = .ok (.invokevirtual 44, 3) := by decide +kernel
theorem dX4_servedBy_26 : decode cX4_servedBy 26 = .ok (.aload_n 3, 1) := by decide +kernel
theorem dX4_servedBy_27 : decode cX4_servedBy 27 = .ok (.iload 4, 2) := by decide +kernel
theorem dX4_servedBy_29 : decode cX4_servedBy 29 = .ok (.putfield 49, 3) := by decide +kernel
theorem dX4_servedBy_32 : decode cX4_servedBy 32 = .ok (.aload_n 3, 1) := by decide +kernel
theorem dX4_servedBy_33 : decode cX4_servedBy 33 = .ok (.invokevirtual 52, 3) := by decide +kernel
theorem dX4_servedBy_36 : decode cX4_servedBy 36 = .ok (.aload_n 0, 1) := by decide +kernel
theorem dX4_servedBy_37 : decode cX4_servedBy 37 = .ok (.getfield 9, 3) := by decide +kernel
theorem dX4_servedBy_40 : decode cX4_servedBy 40 = .ok (.iload 4, 2) := by decide +kernel
theorem dX4_servedBy_42 : decode cX4_servedBy 42 = .ok (.lconst 0, 1) := by decide +kernel
theorem dX4_servedBy_43 : decode cX4_servedBy 43 = .ok (.lastore, 1) := by decide +kernel
theorem dX4_servedBy_44 : decode cX4_servedBy 44 = .ok (.iconst 0, 1) := by decide +kernel
theorem dX4_servedBy_45 : decode cX4_servedBy 45 = .ok (.istore 5, 2) := by decide +kernel
theorem dX4_servedBy_47 : decode cX4_servedBy 47 = .ok (.iload 5, 2) := by decide +kernel
theorem dX4_servedBy_49 : decode cX4_servedBy 49 = .ok (.bipush 7, 2) := by decide +kernel
theorem dX4_servedBy_51 : decode cX4_servedBy 51 = .ok (.if_icmp .gt 32, 3) := by decide +kernel
theorem dX4_servedBy_54 : decode cX4_servedBy 54 = .ok (.aload_n 0, 1) := by decide +kernel
theorem dX4_servedBy_55 : decode cX4_servedBy 55 = .ok (.getfield 9, 3) := by decide +kernel
theorem dX4_servedBy_58 : decode cX4_servedBy 58 = .ok (.iload 4, 2) := by decide +kernel
theorem dX4_servedBy_60 : decode cX4_servedBy 60 = .ok (.dup2, 1) := by decide +kernel
theorem dX4_servedBy_61 : decode cX4_servedBy 61 = .ok (.laload, 1) := by decide +kernel
theorem dX4_servedBy_62 : decode cX4_servedBy 62 = .ok (.aload_n 3, 1) := by decide +kernel
theorem dX4_servedBy_63 : decode cX4_servedBy 63 = .ok (.iload 5, 2) := by decide +kernel
theorem dX4_servedBy_65 : decode cX4_servedBy 65 = .ok (.invokevirtual 55, 3) := by decide +kernel
theorem dX4_servedBy_68 : decode cX4_servedBy 68 = .ok (.i2l, 1) := by decide +kernel
theorem dX4_servedBy_69 : decode cX4_servedBy 69 = .ok (.bipush 8, 2) := by decide +kernel
theorem dX4_servedBy_71 : decode cX4_servedBy 71 = .ok (.iload 5, 2) := by decide +kernel
theorem dX4_servedBy_73 : decode cX4_servedBy 73 = .ok (.imul, 1) := by decide +kernel
theorem dX4_servedBy_74 : decode cX4_servedBy 74 = .ok (.lshl, 1) := by decide +kernel
theorem dX4_servedBy_75 : decode cX4_servedBy 75 = .ok (.lor, 1) := by decide +kernel
theorem dX4_servedBy_76 : decode cX4_servedBy 76 = .ok (.lastore, 1) := by decide +kernel
theorem dX4_servedBy_77 : decode cX4_servedBy 77 = .ok (.iinc 5 1, 3) := by decide +kernel
theorem dX4_servedBy_80 : decode cX4_servedBy 80 = .ok (.goto (-33), 3) := by decide +kernel
theorem dX4_servedBy_83 : decode cX4_servedBy 83 = .ok (.aload_n 0, 1) := by decide +kernel
theorem dX4_servedBy_84 : decode cX4_servedBy 84 = .ok (.getfield 15, 3) := by decide +kernel
theorem dX4_servedBy_87 : decode cX4_servedBy 87 = .ok (.iload 4, 2) := by decide +kernel
theorem dX4_servedBy_89 : decode cX4_servedBy 89 = .ok (.aload_n 0, 1) := by decide +kernel
theorem dX4_servedBy_90 : decode cX4_servedBy 90 = .ok (.getfield 19, 3) := by decide +kernel
theorem dX4_servedBy_93 : decode cX4_servedBy 93 = .ok (.iastore, 1) := by decide +kernel
theorem dX4_servedBy_94 : decode cX4_servedBy 94 = .ok (.aload_n 0, 1) := by decide +kernel
theorem dX4_servedBy_95 : decode cX4_servedBy 95 = .ok (.getfield 9, 3) := by decide +kernel
theorem dX4_servedBy_98 : decode cX4_servedBy 98 = .ok (.iload 4, 2) := by decide +kernel
theorem dX4_servedBy_100 : decode cX4_servedBy 100 = .ok (.laload, 1) := by decide +kernel
theorem dX4_servedBy_101 : decode cX4_servedBy 101 = .ok (.bipush 8, 2) := by decide +kernel
theorem dX4_servedBy_103 : decode cX4_servedBy 103 = .ok (.iload_n 2, 1) := by decide +kernel
theorem dX4_servedBy_104 : decode cX4_servedBy 104 = .ok (.bipush 7, 2) := by decide +kernel
theorem dX4_servedBy_106 : decode cX4_servedBy 106 = .ok (.invokestatic 59, 3) := by decide +kernel
theorem dX4_servedBy_109 : decode cX4_servedBy 109 = .ok (.imul, 1) := by decide +kernel
theorem dX4_servedBy_110 : decode cX4_servedBy 110 = .ok (.lushr, 1) := by decide +kernel
theorem dX4_servedBy_111 : decode cX4_servedBy 111 = .ok (.l2i, 1) := by decide +kernel
theorem dX4_servedBy_112 : decode cX4_servedBy 112 = .ok (.sipush 255, 3) := by decide +kernel
theorem dX4_servedBy_115 : decode cX4_servedBy 115 = .ok (.iand, 1) := by decide +kernel
theorem dX4_servedBy_116 : decode cX4_servedBy 116 = .ok (.ireturn, 1) := by decide +kernel
theorem dX5_init_0 : decode cX5_init 0 = .ok (.aload_n 0, 1) := by decide +kernel
theorem dX5_init_1 : decode cX5_init 1 = .ok (.invokespecial 3, 3) := by decide +kernel
theorem dX5_init_4 : decode cX5_init 4 = .ok (.aload_n 0, 1) := by decide +kernel
theorem dX5_init_5 : decode cX5_init 5 = .ok (.iload_n 1, 1) := by decide +kernel
theorem dX5_init_6 : decode cX5_init 6 = .ok (.iconst 0, 1) := by decide +kernel
theorem dX5_init_7 : decode cX5_init 7 = .ok (.invokestatic 9, 3) := by decide +kernel
theorem dX5_init_10 : decode cX5_init 10 = .ok (.newarray .int, 2) := by decide +kernel
theorem dX5_init_12 : decode cX5_init 12 = .ok (.putfield 15, 3) := by decide +kernel
theorem dX5_init_15 : decode cX5_init 15 = .ok (.return_, 1) := by decide +kernel
theorem dX5_isFull_0 : decode cX5_isFull 0 = .ok (.aload_n 0, 1) := by decide +kernel
theorem dX5_isFull_1 : decode cX5_isFull 1 = .ok (.getfield 21, 3) := by decide +kernel
theorem dX5_isFull_4 : decode cX5_isFull 4 = .ok (.aload_n 0, 1) := by decide +kernel
theorem dX5_isFull_5 : decode cX5_isFull 5 = .ok (.getfield 15, 3) := by decide +kernel
theorem dX5_isFull_8 : decode cX5_isFull 8 = .ok (.arraylength, 1) := by decide +kernel
theorem dX5_isFull_9 : decode cX5_isFull 9 = .ok (.if_icmp .lt 7, 3) := by decide +kernel
theorem dX5_isFull_12 : decode cX5_isFull 12 = .ok (.iconst 1, 1) := by decide +kernel
theorem dX5_isFull_13 : decode cX5_isFull 13 = .ok (.goto 4, 3) := by decide +kernel
theorem dX5_isFull_16 : decode cX5_isFull 16 = .ok (.iconst 0, 1) := by decide +kernel
theorem dX5_isFull_17 : decode cX5_isFull 17 = .ok (.ireturn, 1) := by decide +kernel
theorem dX5_append_0 : decode cX5_append 0 = .ok (.aload_n 0, 1) := by decide +kernel
theorem dX5_append_1 : decode cX5_append 1 = .ok (.invokevirtual 25, 3) := by decide +kernel
theorem dX5_append_4 : decode cX5_append 4 = .ok (.ifCond .ne 23, 3) := by decide +kernel
theorem dX5_append_7 : decode cX5_append 7 = .ok (.aload_n 0, 1) := by decide +kernel
theorem dX5_append_8 : decode cX5_append 8 = .ok (.getfield 15, 3) := by decide +kernel
theorem dX5_append_11 : decode cX5_append 11 = .ok (.aload_n 0, 1) := by decide +kernel
theorem dX5_append_12 : decode cX5_append 12 = .ok (.getfield 21, 3) := by decide +kernel
theorem dX5_append_15 : decode cX5_append 15 = .ok (.iload_n 1, 1) := by decide +kernel
theorem dX5_append_16 : decode cX5_append 16 = .ok (.iastore, 1) := by decide +kernel
theorem dX5_append_17 : decode cX5_append 17 = .ok (.aload_n 0, 1) := by decide +kernel
theorem dX5_append_18 : decode cX5_append 18 = .ok (.dup, 1) := by decide +kernel
theorem dX5_append_19 : decode cX5_append 19 = .ok (.getfield 21, 3) := by decide +kernel
theorem dX5_append_22 : decode cX5_append 22 = .ok (.iconst 1, 1) := by decide +kernel
theorem dX5_append_23 : decode cX5_append 23 = .ok (.iadd, 1) := by decide +kernel
theorem dX5_append_24 : decode cX5_append 24 = .ok (.putfield 21, 3) := by decide +kernel
theorem dX5_append_27 : decode cX5_append 27 = .ok (.return_, 1) := by decide +kernel
theorem dX5_faultAsRiders_0 : decode cX5_faultAsRiders 0 = .ok (.iconst 0, 1) := by decide +kernel
theorem dX5_faultAsRiders_1 : decode cX5_faultAsRiders 1 = .ok (.istore_n 1, 1) := by decide +kernel
theorem dX5_faultAsRiders_2 : decode cX5_faultAsRiders 2 = .ok (.iload_n 1, 1) := by decide +kernel
theorem dX5_faultAsRiders_3 : decode cX5_faultAsRiders 3 = .ok (.aload_n 0, 1) := by decide +kernel
theorem dX5_faultAsRiders_4 : decode cX5_faultAsRiders 4 = .ok (.getfield 21, 3) := by decide +kernel
theorem dX5_faultAsRiders_7 : decode cX5_faultAsRiders 7 = .ok (.if_icmp .ge 32, 3) := by decide +kernel
theorem dX5_faultAsRiders_10 : decode cX5_faultAsRiders 10 = .ok (.iload_n 1, 1) := by decide +kernel
theorem dX5_faultAsRiders_11 : decode cX5_faultAsRiders 11 = .ok (.bipush 40, 2) := by decide +kernel
theorem dX5_faultAsRiders_13 : decode cX5_faultAsRiders 13 = .ok (.if_icmp .ge 18, 3) := by decide +kernel
theorem dX5_faultAsRiders_16 : decode cX5_faultAsRiders 16 = .ok (.iload_n 1, 1) := by decide +kernel
theorem dX5_faultAsRiders_17 : decode cX5_faultAsRiders 17 = .ok (.iconst 5, 1) := by decide +kernel
theorem dX5_faultAsRiders_18 : decode cX5_faultAsRiders 18 = .ok (.irem, 1) := by decide +kernel
theorem dX5_faultAsRiders_19 : decode cX5_faultAsRiders 19 = .ok (.aload_n 0, 1) := by decide +kernel
theorem dX5_faultAsRiders_20 : decode cX5_faultAsRiders 20 = .ok (.getfield 15, 3) := by decide +kernel
theorem dX5_faultAsRiders_23 : decode cX5_faultAsRiders 23 = .ok (.iload_n 1, 1) := by decide +kernel
theorem dX5_faultAsRiders_24 : decode cX5_faultAsRiders 24 = .ok (.iaload, 1) := by decide +kernel
theorem dX5_faultAsRiders_25 : decode cX5_faultAsRiders 25 = .ok (.invokestatic 29, 3) := by decide +kernel
theorem dX5_faultAsRiders_28 : decode cX5_faultAsRiders 28 = .ok (.ifCond .ne 5, 3) := by decide +kernel
theorem dX5_faultAsRiders_31 : decode cX5_faultAsRiders 31 = .ok (.iload_n 1, 1) := by decide +kernel
theorem dX5_faultAsRiders_32 : decode cX5_faultAsRiders 32 = .ok (.ireturn, 1) := by decide +kernel
theorem dX5_faultAsRiders_33 : decode cX5_faultAsRiders 33 = .ok (.iinc 1 1, 3) := by decide +kernel
theorem dX5_faultAsRiders_36 : decode cX5_faultAsRiders 36 = .ok (.goto (-34), 3) := by decide +kernel
theorem dX5_faultAsRiders_39 : decode cX5_faultAsRiders 39 = .ok (.aload_n 0, 1) := by decide +kernel
theorem dX5_faultAsRiders_40 : decode cX5_faultAsRiders 40 = .ok (.getfield 21, 3) := by decide +kernel
theorem dX5_faultAsRiders_43 : decode cX5_faultAsRiders 43 = .ok (.ifCond .eq 13, 3) := by decide +kernel
theorem dX5_faultAsRiders_46 : decode cX5_faultAsRiders 46 = .ok (.aload_n 0, 1) := by decide +kernel
theorem dX5_faultAsRiders_47 : decode cX5_faultAsRiders 47 = .ok (.getfield 21, 3) := by decide +kernel
theorem dX5_faultAsRiders_50 : decode cX5_faultAsRiders 50 = .ok (.iconst 5, 1) := by decide +kernel
theorem dX5_faultAsRiders_51 : decode cX5_faultAsRiders 51 = .ok (.irem, 1) := by decide +kernel
theorem dX5_faultAsRiders_52 : decode cX5_faultAsRiders 52 = .ok (.iconst 4, 1) := by decide +kernel
theorem dX5_faultAsRiders_53 : decode cX5_faultAsRiders 53 = .ok (.if_icmp .ne 7, 3) := by decide +kernel
theorem dX5_faultAsRiders_56 : decode cX5_faultAsRiders 56 = .ok (.iconst (-1), 1) := by decide +kernel
theorem dX5_faultAsRiders_57 : decode cX5_faultAsRiders 57 = .ok (.goto 7, 3) := by decide +kernel
theorem dX5_faultAsRiders_60 : decode cX5_faultAsRiders 60 = .ok (.aload_n 0, 1) := by decide +kernel
theorem dX5_faultAsRiders_61 : decode cX5_faultAsRiders 61 = .ok (.getfield 21, 3) := by decide +kernel
theorem dX5_faultAsRiders_64 : decode cX5_faultAsRiders 64 = .ok (.ireturn, 1) := by decide +kernel
theorem dX5_faultAsBag_0 : decode cX5_faultAsBag 0 = .ok (.iconst 0, 1) := by decide +kernel
theorem dX5_faultAsBag_1 : decode cX5_faultAsBag 1 = .ok (.istore_n 1, 1) := by decide +kernel
theorem dX5_faultAsBag_2 : decode cX5_faultAsBag 2 = .ok (.iload_n 1, 1) := by decide +kernel
theorem dX5_faultAsBag_3 : decode cX5_faultAsBag 3 = .ok (.aload_n 0, 1) := by decide +kernel
theorem dX5_faultAsBag_4 : decode cX5_faultAsBag 4 = .ok (.getfield 21, 3) := by decide +kernel
theorem dX5_faultAsBag_7 : decode cX5_faultAsBag 7 = .ok (.if_icmp .ge 24, 3) := by decide +kernel
theorem dX5_faultAsBag_10 : decode cX5_faultAsBag 10 = .ok (.aload_n 0, 1) := by decide +kernel
theorem dX5_faultAsBag_11 : decode cX5_faultAsBag 11 = .ok (.getfield 15, 3) := by decide +kernel
theorem dX5_faultAsBag_14 : decode cX5_faultAsBag 14 = .ok (.iload_n 1, 1) := by decide +kernel
theorem dX5_faultAsBag_15 : decode cX5_faultAsBag 15 = .ok (.iaload, 1) := by decide +kernel
theorem dX5_faultAsBag_16 : decode cX5_faultAsBag 16 = .ok (.invokestatic 33, 3) := by decide +kernel
theorem dX5_faultAsBag_19 : decode cX5_faultAsBag 19 = .ok (.iconst (-1), 1) := by decide +kernel
theorem dX5_faultAsBag_20 : decode cX5_faultAsBag 20 = .ok (.if_icmp .ne 5, 3) := by decide +kernel
theorem dX5_faultAsBag_23 : decode cX5_faultAsBag 23 = .ok (.iload_n 1, 1) := by decide +kernel
theorem dX5_faultAsBag_24 : decode cX5_faultAsBag 24 = .ok (.ireturn, 1) := by decide +kernel
theorem dX5_faultAsBag_25 : decode cX5_faultAsBag 25 = .ok (.iinc 1 1, 3) := by decide +kernel
theorem dX5_faultAsBag_28 : decode cX5_faultAsBag 28 = .ok (.goto (-26), 3) := by decide +kernel
theorem dX5_faultAsBag_31 : decode cX5_faultAsBag 31 = .ok (.iconst (-1), 1) := by decide +kernel
theorem dX5_faultAsBag_32 : decode cX5_faultAsBag 32 = .ok (.ireturn, 1) := by decide +kernel
theorem dX5_fitsRider_0 : decode cX5_fitsRider 0 = .ok (.iload_n 0, 1) := by decide +kernel
theorem dX5_fitsRider_1 : decode cX5_fitsRider 1 = .ok (.tableswitch 67 0 3 #[31, 49, 49, 31], 31) := by decide +kernel
theorem dX5_fitsRider_32 : decode cX5_fitsRider 32 = .ok (.iload_n 1, 1) := by decide +kernel
theorem dX5_fitsRider_33 : decode cX5_fitsRider 33 = .ok (.bipush 97, 2) := by decide +kernel
theorem dX5_fitsRider_35 : decode cX5_fitsRider 35 = .ok (.if_icmp .lt 13, 3) := by decide +kernel
theorem dX5_fitsRider_38 : decode cX5_fitsRider 38 = .ok (.iload_n 1, 1) := by decide +kernel
theorem dX5_fitsRider_39 : decode cX5_fitsRider 39 = .ok (.bipush 104, 2) := by decide +kernel
theorem dX5_fitsRider_41 : decode cX5_fitsRider 41 = .ok (.if_icmp .gt 7, 3) := by decide +kernel
theorem dX5_fitsRider_44 : decode cX5_fitsRider 44 = .ok (.iconst 1, 1) := by decide +kernel
theorem dX5_fitsRider_45 : decode cX5_fitsRider 45 = .ok (.goto 4, 3) := by decide +kernel
theorem dX5_fitsRider_48 : decode cX5_fitsRider 48 = .ok (.iconst 0, 1) := by decide +kernel
theorem dX5_fitsRider_49 : decode cX5_fitsRider 49 = .ok (.ireturn, 1) := by decide +kernel
theorem dX5_fitsRider_50 : decode cX5_fitsRider 50 = .ok (.iload_n 1, 1) := by decide +kernel
theorem dX5_fitsRider_51 : decode cX5_fitsRider 51 = .ok (.bipush 48, 2) := by decide +kernel
theorem dX5_fitsRider_53 : decode cX5_fitsRider 53 = .ok (.if_icmp .lt 13, 3) := by decide +kernel
theorem dX5_fitsRider_56 : decode cX5_fitsRider 56 = .ok (.iload_n 1, 1) := by decide +kernel
theorem dX5_fitsRider_57 : decode cX5_fitsRider 57 = .ok (.bipush 57, 2) := by decide +kernel
theorem dX5_fitsRider_59 : decode cX5_fitsRider 59 = .ok (.if_icmp .gt 7, 3) := by decide +kernel
theorem dX5_fitsRider_62 : decode cX5_fitsRider 62 = .ok (.iconst 1, 1) := by decide +kernel
theorem dX5_fitsRider_63 : decode cX5_fitsRider 63 = .ok (.goto 4, 3) := by decide +kernel
theorem dX5_fitsRider_66 : decode cX5_fitsRider 66 = .ok (.iconst 0, 1) := by decide +kernel
theorem dX5_fitsRider_67 : decode cX5_fitsRider 67 = .ok (.ireturn, 1) := by decide +kernel
theorem dX5_fitsRider_68 : decode cX5_fitsRider 68 = .ok (.iload_n 1, 1) := by decide +kernel
theorem dX5_fitsRider_69 : decode cX5_fitsRider 69 = .ok (.bipush 59, 2) := by decide +kernel
theorem dX5_fitsRider_71 : decode cX5_fitsRider 71 = .ok (.if_icmp .ne 7, 3) := by decide +kernel
theorem dX5_fitsRider_74 : decode cX5_fitsRider 74 = .ok (.iconst 1, 1) := by decide +kernel
theorem dX5_fitsRider_75 : decode cX5_fitsRider 75 = .ok (.goto 4, 3) := by decide +kernel
theorem dX5_fitsRider_78 : decode cX5_fitsRider 78 = .ok (.iconst 0, 1) := by decide +kernel
theorem dX5_fitsRider_79 : decode cX5_fitsRider 79 = .ok (.ireturn, 1) := by decide +kernel
theorem dX5_kindOf_0 : decode cX5_kindOf 0 = .ok (.iload_n 0, 1) := by decide +kernel
theorem dX5_kindOf_1 : decode cX5_kindOf 1 = .ok (.bipush 97, 2) := by decide +kernel
theorem dX5_kindOf_3 : decode cX5_kindOf 3 = .ok (.if_icmp .lt 14, 3) := by decide +kernel
theorem dX5_kindOf_6 : decode cX5_kindOf 6 = .ok (.iload_n 0, 1) := by decide +kernel
theorem dX5_kindOf_7 : decode cX5_kindOf 7 = .ok (.bipush 104, 2) := by decide +kernel
theorem dX5_kindOf_9 : decode cX5_kindOf 9 = .ok (.if_icmp .gt 8, 3) := by decide +kernel
theorem dX5_kindOf_12 : decode cX5_kindOf 12 = .ok (.iload_n 0, 1) := by decide +kernel
theorem dX5_kindOf_13 : decode cX5_kindOf 13 = .ok (.bipush 97, 2) := by decide +kernel
theorem dX5_kindOf_15 : decode cX5_kindOf 15 = .ok (.isub, 1) := by decide +kernel
theorem dX5_kindOf_16 : decode cX5_kindOf 16 = .ok (.ireturn, 1) := by decide +kernel
theorem dX5_kindOf_17 : decode cX5_kindOf 17 = .ok (.iload_n 0, 1) := by decide +kernel
theorem dX5_kindOf_18 : decode cX5_kindOf 18 = .ok (.bipush 65, 2) := by decide +kernel
theorem dX5_kindOf_20 : decode cX5_kindOf 20 = .ok (.if_icmp .lt 19, 3) := by decide +kernel
theorem dX5_kindOf_23 : decode cX5_kindOf 23 = .ok (.iload_n 0, 1) := by decide +kernel
theorem dX5_kindOf_24 : decode cX5_kindOf 24 = .ok (.bipush 72, 2) := by decide +kernel
theorem dX5_kindOf_26 : decode cX5_kindOf 26 = .ok (.if_icmp .gt 13, 3) := by decide +kernel
theorem dX5_kindOf_29 : decode cX5_kindOf 29 = .ok (.iload_n 0, 1) := by decide +kernel
theorem dX5_kindOf_30 : decode cX5_kindOf 30 = .ok (.bipush 65, 2) := by decide +kernel
theorem dX5_kindOf_32 : decode cX5_kindOf 32 = .ok (.isub, 1) := by decide +kernel
theorem dX5_kindOf_33 : decode cX5_kindOf 33 = .ok (.bipush 8, 2) := by decide +kernel
theorem dX5_kindOf_35 : decode cX5_kindOf 35 = .ok (.iadd, 1) := by decide +kernel
theorem dX5_kindOf_36 : decode cX5_kindOf 36 = .ok (.goto 4, 3) := by decide +kernel
theorem dX5_kindOf_39 : decode cX5_kindOf 39 = .ok (.iconst (-1), 1) := by decide +kernel
theorem dX5_kindOf_40 : decode cX5_kindOf 40 = .ok (.ireturn, 1) := by decide +kernel
theorem dX6_init_0 : decode cX6_init 0 = .ok (.aload_n 0, 1) := by decide +kernel
theorem dX6_init_1 : decode cX6_init 1 = .ok (.invokespecial 3, 3) := by decide +kernel
theorem dX6_init_4 : decode cX6_init 4 = .ok (.aload_n 0, 1) := by decide +kernel
theorem dX6_init_5 : decode cX6_init 5 = .ok (.bipush 8, 2) := by decide +kernel
theorem dX6_init_7 : decode cX6_init 7 = .ok (.newarray .int, 2) := by decide +kernel
theorem dX6_init_9 : decode cX6_init 9 = .ok (.putfield 9, 3) := by decide +kernel
theorem dX6_init_12 : decode cX6_init 12 = .ok (.aload_n 0, 1) := by decide +kernel
theorem dX6_init_13 : decode cX6_init 13 = .ok (.bipush 8, 2) := by decide +kernel
theorem dX6_init_15 : decode cX6_init 15 = .ok (.newarray .int, 2) := by decide +kernel
theorem dX6_init_17 : decode cX6_init 17 = .ok (.putfield 15, 3) := by decide +kernel
theorem dX6_init_20 : decode cX6_init 20 = .ok (.aload_n 0, 1) := by decide +kernel
theorem dX6_init_21 : decode cX6_init 21 = .ok (.bipush 8, 2) := by decide +kernel
theorem dX6_init_23 : decode cX6_init 23 = .ok (.newarray .int, 2) := by decide +kernel
theorem dX6_init_25 : decode cX6_init 25 = .ok (.putfield 18, 3) := by decide +kernel
theorem dX6_init_28 : decode cX6_init 28 = .ok (.aload_n 0, 1) := by decide +kernel
theorem dX6_init_29 : decode cX6_init 29 = .ok (.bipush 8, 2) := by decide +kernel
theorem dX6_init_31 : decode cX6_init 31 = .ok (.newarray .int, 2) := by decide +kernel
theorem dX6_init_33 : decode cX6_init 33 = .ok (.putfield 21, 3) := by decide +kernel
theorem dX6_init_36 : decode cX6_init 36 = .ok (.aload_n 0, 1) := by decide +kernel
theorem dX6_init_37 : decode cX6_init 37 = .ok (.bipush 10, 2) := by decide +kernel
theorem dX6_init_39 : decode cX6_init 39 = .ok (.newarray .int, 2) := by decide +kernel
theorem dX6_init_41 : decode cX6_init 41 = .ok (.putfield 24, 3) := by decide +kernel
theorem dX6_init_44 : decode cX6_init 44 = .ok (.aload_n 0, 1) := by decide +kernel
theorem dX6_init_45 : decode cX6_init 45 = .ok (.bipush 10, 2) := by decide +kernel
theorem dX6_init_47 : decode cX6_init 47 = .ok (.newarray .int, 2) := by decide +kernel
theorem dX6_init_49 : decode cX6_init 49 = .ok (.putfield 27, 3) := by decide +kernel
theorem dX6_init_52 : decode cX6_init 52 = .ok (.aload_n 0, 1) := by decide +kernel
theorem dX6_init_53 : decode cX6_init 53 = .ok (.new 30, 3) := by decide +kernel
theorem dX6_init_56 : decode cX6_init 56 = .ok (.dup, 1) := by decide +kernel
theorem dX6_init_57 : decode cX6_init 57 = .ok (.invokespecial 32, 3) := by decide +kernel
theorem dX6_init_60 : decode cX6_init 60 = .ok (.putfield 33, 3) := by decide +kernel
theorem dX6_init_63 : decode cX6_init 63 = .ok (.aload_n 0, 1) := by decide +kernel
theorem dX6_init_64 : decode cX6_init 64 = .ok (.bipush 8, 2) := by decide +kernel
theorem dX6_init_66 : decode cX6_init 66 = .ok (.newarray .int, 2) := by decide +kernel
theorem dX6_init_68 : decode cX6_init 68 = .ok (.dup, 1) := by decide +kernel
theorem dX6_init_69 : decode cX6_init 69 = .ok (.iconst 0, 1) := by decide +kernel
theorem dX6_init_70 : decode cX6_init 70 = .ok (.iconst 1, 1) := by decide +kernel
theorem dX6_init_71 : decode cX6_init 71 = .ok (.iastore, 1) := by decide +kernel
theorem dX6_init_72 : decode cX6_init 72 = .ok (.dup, 1) := by decide +kernel
theorem dX6_init_73 : decode cX6_init 73 = .ok (.iconst 1, 1) := by decide +kernel
theorem dX6_init_74 : decode cX6_init 74 = .ok (.iconst 2, 1) := by decide +kernel
theorem dX6_init_75 : decode cX6_init 75 = .ok (.iastore, 1) := by decide +kernel
theorem dX6_init_76 : decode cX6_init 76 = .ok (.dup, 1) := by decide +kernel
theorem dX6_init_77 : decode cX6_init 77 = .ok (.iconst 2, 1) := by decide +kernel
theorem dX6_init_78 : decode cX6_init 78 = .ok (.iconst 3, 1) := by decide +kernel
theorem dX6_init_79 : decode cX6_init 79 = .ok (.iastore, 1) := by decide +kernel
theorem dX6_init_80 : decode cX6_init 80 = .ok (.dup, 1) := by decide +kernel
theorem dX6_init_81 : decode cX6_init 81 = .ok (.iconst 3, 1) := by decide +kernel
theorem dX6_init_82 : decode cX6_init 82 = .ok (.iconst 4, 1) := by decide +kernel
theorem dX6_init_83 : decode cX6_init 83 = .ok (.iastore, 1) := by decide +kernel
theorem dX6_init_84 : decode cX6_init 84 = .ok (.dup, 1) := by decide +kernel
theorem dX6_init_85 : decode cX6_init 85 = .ok (.iconst 4, 1) := by decide +kernel
theorem dX6_init_86 : decode cX6_init 86 = .ok (.iconst 5, 1) := by decide +kernel
theorem dX6_init_87 : decode cX6_init 87 = .ok (.iastore, 1) := by decide +kernel
theorem dX6_init_88 : decode cX6_init 88 = .ok (.dup, 1) := by decide +kernel
theorem dX6_init_89 : decode cX6_init 89 = .ok (.iconst 5, 1) := by decide +kernel
theorem dX6_init_90 : decode cX6_init 90 = .ok (.bipush 6, 2) := by decide +kernel
theorem dX6_init_92 : decode cX6_init 92 = .ok (.iastore, 1) := by decide +kernel
theorem dX6_init_93 : decode cX6_init 93 = .ok (.dup, 1) := by decide +kernel
theorem dX6_init_94 : decode cX6_init 94 = .ok (.bipush 6, 2) := by decide +kernel
theorem dX6_init_96 : decode cX6_init 96 = .ok (.bipush 7, 2) := by decide +kernel
theorem dX6_init_98 : decode cX6_init 98 = .ok (.iastore, 1) := by decide +kernel
theorem dX6_init_99 : decode cX6_init 99 = .ok (.dup, 1) := by decide +kernel
theorem dX6_init_100 : decode cX6_init 100 = .ok (.bipush 7, 2) := by decide +kernel
theorem dX6_init_102 : decode cX6_init 102 = .ok (.bipush 8, 2) := by decide +kernel
theorem dX6_init_104 : decode cX6_init 104 = .ok (.iastore, 1) := by decide +kernel
theorem dX6_init_105 : decode cX6_init 105 = .ok (.putfield 37, 3) := by decide +kernel
theorem dX6_init_108 : decode cX6_init 108 = .ok (.aload_n 0, 1) := by decide +kernel
theorem dX6_init_109 : decode cX6_init 109 = .ok (.iconst 2, 1) := by decide +kernel
theorem dX6_init_110 : decode cX6_init 110 = .ok (.putfield 40, 3) := by decide +kernel
theorem dX6_init_113 : decode cX6_init 113 = .ok (.aload_n 0, 1) := by decide +kernel
theorem dX6_init_114 : decode cX6_init 114 = .ok (.bipush 32, 2) := by decide +kernel
theorem dX6_init_116 : decode cX6_init 116 = .ok (.putfield 44, 3) := by decide +kernel
theorem dX6_init_119 : decode cX6_init 119 = .ok (.return_, 1) := by decide +kernel
theorem dX6_readRiders_0 : decode cX6_readRiders 0 = .ok (.aload_n 0, 1) := by decide +kernel
theorem dX6_readRiders_1 : decode cX6_readRiders 1 = .ok (.getfield 24, 3) := by decide +kernel
theorem dX6_readRiders_4 : decode cX6_readRiders 4 = .ok (.iconst 0, 1) := by decide +kernel
theorem dX6_readRiders_5 : decode cX6_readRiders 5 = .ok (.invokestatic 47, 3) := by decide +kernel
theorem dX6_readRiders_8 : decode cX6_readRiders 8 = .ok (.aload_n 0, 1) := by decide +kernel
theorem dX6_readRiders_9 : decode cX6_readRiders 9 = .ok (.getfield 27, 3) := by decide +kernel
theorem dX6_readRiders_12 : decode cX6_readRiders 12 = .ok (.iconst 0, 1) := by decide +kernel
theorem dX6_readRiders_13 : decode cX6_readRiders 13 = .ok (.invokestatic 47, 3) := by decide +kernel
theorem dX6_readRiders_16 : decode cX6_readRiders 16 = .ok (.aload_n 0, 1) := by decide +kernel
theorem dX6_readRiders_17 : decode cX6_readRiders 17 = .ok (.aload_n 1, 1) := by decide +kernel
theorem dX6_readRiders_18 : decode cX6_readRiders 18 = .ok (.invokevirtual 53, 3) := by decide +kernel
theorem dX6_readRiders_21 : decode cX6_readRiders 21 = .ok (.iconst (-1), 1) := by decide +kernel
theorem dX6_readRiders_22 : decode cX6_readRiders 22 = .ok (.if_icmp .ne 14, 3) := by decide +kernel
theorem dX6_readRiders_25 : decode cX6_readRiders 25 = .ok (.aload_n 1, 1) := by decide +kernel
theorem dX6_readRiders_26 : decode cX6_readRiders 26 = .ok (.getfield 59, 3) := by decide +kernel
theorem dX6_readRiders_29 : decode cX6_readRiders 29 = .ok (.iconst 1, 1) := by decide +kernel
theorem dX6_readRiders_30 : decode cX6_readRiders 30 = .ok (.iadd, 1) := by decide +kernel
theorem dX6_readRiders_31 : decode cX6_readRiders 31 = .ok (.iconst 5, 1) := by decide +kernel
theorem dX6_readRiders_32 : decode cX6_readRiders 32 = .ok (.idiv, 1) := by decide +kernel
theorem dX6_readRiders_33 : decode cX6_readRiders 33 = .ok (.goto 4, 3) := by decide +kernel
theorem dX6_readRiders_36 : decode cX6_readRiders 36 = .ok (.iconst 0, 1) := by decide +kernel
theorem dX6_readRiders_37 : decode cX6_readRiders 37 = .ok (.putfield 62, 3) := by decide +kernel
theorem dX6_readRiders_40 : decode cX6_readRiders 40 = .ok (.iconst 0, 1) := by decide +kernel
theorem dX6_readRiders_41 : decode cX6_readRiders 41 = .ok (.istore_n 2, 1) := by decide +kernel
theorem dX6_readRiders_42 : decode cX6_readRiders 42 = .ok (.iload_n 2, 1) := by decide +kernel
theorem dX6_readRiders_43 : decode cX6_readRiders 43 = .ok (.aload_n 0, 1) := by decide +kernel
theorem dX6_readRiders_44 : decode cX6_readRiders 44 = .ok (.getfield 62, 3) := by decide +kernel
theorem dX6_readRiders_47 : decode cX6_readRiders 47 = .ok (.if_icmp .ge 88, 3) := by decide +kernel
theorem dX6_readRiders_50 : decode cX6_readRiders 50 = .ok (.aload_n 0, 1) := by decide +kernel
theorem dX6_readRiders_51 : decode cX6_readRiders 51 = .ok (.getfield 9, 3) := by decide +kernel
theorem dX6_readRiders_54 : decode cX6_readRiders 54 = .ok (.iload_n 2, 1) := by decide +kernel
theorem dX6_readRiders_55 : decode cX6_readRiders 55 = .ok (.aload_n 1, 1) := by decide +kernel
theorem dX6_readRiders_56 : decode cX6_readRiders 56 = .ok (.getfield 65, 3) := by decide +kernel
theorem dX6_readRiders_59 : decode cX6_readRiders 59 = .ok (.iconst 5, 1) := by decide +kernel
theorem dX6_readRiders_60 : decode cX6_readRiders 60 = .ok (.iload_n 2, 1) := by decide +kernel
theorem dX6_readRiders_61 : decode cX6_readRiders 61 = .ok (.imul, 1) := by decide +kernel
theorem dX6_readRiders_62 : decode cX6_readRiders 62 = .ok (.iaload, 1) := by decide +kernel
theorem dX6_readRiders_63 : decode cX6_readRiders 63 = .ok (.bipush 97, 2) := by decide +kernel
theorem dX6_readRiders_65 : decode cX6_readRiders 65 = .ok (.isub, 1) := by decide +kernel
theorem dX6_readRiders_66 : decode cX6_readRiders 66 = .ok (.iastore, 1) := by decide +kernel
theorem dX6_readRiders_67 : decode cX6_readRiders 67 = .ok (.aload_n 0, 1) := by decide +kernel
theorem dX6_readRiders_68 : decode cX6_readRiders 68 = .ok (.getfield 15, 3) := by decide +kernel
theorem dX6_readRiders_71 : decode cX6_readRiders 71 = .ok (.iload_n 2, 1) := by decide +kernel
theorem dX6_readRiders_72 : decode cX6_readRiders 72 = .ok (.aload_n 1, 1) := by decide +kernel
theorem dX6_readRiders_73 : decode cX6_readRiders 73 = .ok (.getfield 65, 3) := by decide +kernel
theorem dX6_readRiders_76 : decode cX6_readRiders 76 = .ok (.iconst 5, 1) := by decide +kernel
theorem dX6_readRiders_77 : decode cX6_readRiders 77 = .ok (.iload_n 2, 1) := by decide +kernel
theorem dX6_readRiders_78 : decode cX6_readRiders 78 = .ok (.imul, 1) := by decide +kernel
theorem dX6_readRiders_79 : decode cX6_readRiders 79 = .ok (.iconst 1, 1) := by decide +kernel
theorem dX6_readRiders_80 : decode cX6_readRiders 80 = .ok (.iadd, 1) := by decide +kernel
theorem dX6_readRiders_81 : decode cX6_readRiders 81 = .ok (.iaload, 1) := by decide +kernel
theorem dX6_readRiders_82 : decode cX6_readRiders 82 = .ok (.bipush 48, 2) := by decide +kernel
theorem dX6_readRiders_84 : decode cX6_readRiders 84 = .ok (.isub, 1) := by decide +kernel
theorem dX6_readRiders_85 : decode cX6_readRiders 85 = .ok (.iastore, 1) := by decide +kernel
theorem dX6_readRiders_86 : decode cX6_readRiders 86 = .ok (.aload_n 0, 1) := by decide +kernel
theorem dX6_readRiders_87 : decode cX6_readRiders 87 = .ok (.getfield 18, 3) := by decide +kernel
theorem dX6_readRiders_90 : decode cX6_readRiders 90 = .ok (.iload_n 2, 1) := by decide +kernel
theorem dX6_readRiders_91 : decode cX6_readRiders 91 = .ok (.aload_n 1, 1) := by decide +kernel
theorem dX6_readRiders_92 : decode cX6_readRiders 92 = .ok (.getfield 65, 3) := by decide +kernel
theorem dX6_readRiders_95 : decode cX6_readRiders 95 = .ok (.iconst 5, 1) := by decide +kernel
theorem dX6_readRiders_96 : decode cX6_readRiders 96 = .ok (.iload_n 2, 1) := by decide +kernel
theorem dX6_readRiders_97 : decode cX6_readRiders 97 = .ok (.imul, 1) := by decide +kernel
theorem dX6_readRiders_98 : decode cX6_readRiders 98 = .ok (.iconst 2, 1) := by decide +kernel
theorem dX6_readRiders_99 : decode cX6_readRiders 99 = .ok (.iadd, 1) := by decide +kernel
theorem dX6_readRiders_100 : decode cX6_readRiders 100 = .ok (.iaload, 1) := by decide +kernel
theorem dX6_readRiders_101 : decode cX6_readRiders 101 = .ok (.bipush 48, 2) := by decide +kernel
theorem dX6_readRiders_103 : decode cX6_readRiders 103 = .ok (.isub, 1) := by decide +kernel
theorem dX6_readRiders_104 : decode cX6_readRiders 104 = .ok (.iastore, 1) := by decide +kernel
theorem dX6_readRiders_105 : decode cX6_readRiders 105 = .ok (.aload_n 0, 1) := by decide +kernel
theorem dX6_readRiders_106 : decode cX6_readRiders 106 = .ok (.getfield 21, 3) := by decide +kernel
theorem dX6_readRiders_109 : decode cX6_readRiders 109 = .ok (.iload_n 2, 1) := by decide +kernel
theorem dX6_readRiders_110 : decode cX6_readRiders 110 = .ok (.aload_n 1, 1) := by decide +kernel
theorem dX6_readRiders_111 : decode cX6_readRiders 111 = .ok (.getfield 65, 3) := by decide +kernel
theorem dX6_readRiders_114 : decode cX6_readRiders 114 = .ok (.iconst 5, 1) := by decide +kernel
theorem dX6_readRiders_115 : decode cX6_readRiders 115 = .ok (.iload_n 2, 1) := by decide +kernel
theorem dX6_readRiders_116 : decode cX6_readRiders 116 = .ok (.imul, 1) := by decide +kernel
theorem dX6_readRiders_117 : decode cX6_readRiders 117 = .ok (.iconst 3, 1) := by decide +kernel
theorem dX6_readRiders_118 : decode cX6_readRiders 118 = .ok (.iadd, 1) := by decide +kernel
theorem dX6_readRiders_119 : decode cX6_readRiders 119 = .ok (.iaload, 1) := by decide +kernel
theorem dX6_readRiders_120 : decode cX6_readRiders 120 = .ok (.bipush 97, 2) := by decide +kernel
theorem dX6_readRiders_122 : decode cX6_readRiders 122 = .ok (.isub, 1) := by decide +kernel
theorem dX6_readRiders_123 : decode cX6_readRiders 123 = .ok (.iastore, 1) := by decide +kernel
theorem dX6_readRiders_124 : decode cX6_readRiders 124 = .ok (.aload_n 0, 1) := by decide +kernel
theorem dX6_readRiders_125 : decode cX6_readRiders 125 = .ok (.iload_n 2, 1) := by decide +kernel
theorem dX6_readRiders_126 : decode cX6_readRiders 126 = .ok (.invokevirtual 68, 3) := by decide +kernel
theorem dX6_readRiders_129 : decode cX6_readRiders 129 = .ok (.iinc 2 1, 3) := by decide +kernel
theorem dX6_readRiders_132 : decode cX6_readRiders 132 = .ok (.goto (-90), 3) := by decide +kernel
theorem dX6_readRiders_135 : decode cX6_readRiders 135 = .ok (.return_, 1) := by decide +kernel
theorem dX6_placeOnBoard_0 : decode cX6_placeOnBoard 0 = .ok (.aload_n 0, 1) := by decide +kernel
theorem dX6_placeOnBoard_1 : decode cX6_placeOnBoard 1 = .ok (.getfield 15, 3) := by decide +kernel
theorem dX6_placeOnBoard_4 : decode cX6_placeOnBoard 4 = .ok (.iload_n 1, 1) := by decide +kernel
theorem dX6_placeOnBoard_5 : decode cX6_placeOnBoard 5 = .ok (.iaload, 1) := by decide +kernel
theorem dX6_placeOnBoard_6 : decode cX6_placeOnBoard 6 = .ok (.istore_n 2, 1) := by decide +kernel
theorem dX6_placeOnBoard_7 : decode cX6_placeOnBoard 7 = .ok (.iload_n 2, 1) := by decide +kernel
theorem dX6_placeOnBoard_8 : decode cX6_placeOnBoard 8 = .ok (.aload_n 0, 1) := by decide +kernel
theorem dX6_placeOnBoard_9 : decode cX6_placeOnBoard 9 = .ok (.getfield 18, 3) := by decide +kernel
theorem dX6_placeOnBoard_12 : decode cX6_placeOnBoard 12 = .ok (.iload_n 1, 1) := by decide +kernel
theorem dX6_placeOnBoard_13 : decode cX6_placeOnBoard 13 = .ok (.iaload, 1) := by decide +kernel
theorem dX6_placeOnBoard_14 : decode cX6_placeOnBoard 14 = .ok (.if_icmp .ge 21, 3) := by decide +kernel
theorem dX6_placeOnBoard_17 : decode cX6_placeOnBoard 17 = .ok (.aload_n 0, 1) := by decide +kernel
theorem dX6_placeOnBoard_18 : decode cX6_placeOnBoard 18 = .ok (.getfield 24, 3) := by decide +kernel
theorem dX6_placeOnBoard_21 : decode cX6_placeOnBoard 21 = .ok (.iload_n 2, 1) := by decide +kernel
theorem dX6_placeOnBoard_22 : decode cX6_placeOnBoard 22 = .ok (.dup2, 1) := by decide +kernel
theorem dX6_placeOnBoard_23 : decode cX6_placeOnBoard 23 = .ok (.iaload, 1) := by decide +kernel
theorem dX6_placeOnBoard_24 : decode cX6_placeOnBoard 24 = .ok (.iconst 1, 1) := by decide +kernel
theorem dX6_placeOnBoard_25 : decode cX6_placeOnBoard 25 = .ok (.iload_n 1, 1) := by decide +kernel
theorem dX6_placeOnBoard_26 : decode cX6_placeOnBoard 26 = .ok (.ishl, 1) := by decide +kernel
theorem dX6_placeOnBoard_27 : decode cX6_placeOnBoard 27 = .ok (.ior, 1) := by decide +kernel
theorem dX6_placeOnBoard_28 : decode cX6_placeOnBoard 28 = .ok (.iastore, 1) := by decide +kernel
theorem dX6_placeOnBoard_29 : decode cX6_placeOnBoard 29 = .ok (.iinc 2 1, 3) := by decide +kernel
theorem dX6_placeOnBoard_32 : decode cX6_placeOnBoard 32 = .ok (.goto (-25), 3) := by decide +kernel
theorem dX6_placeOnBoard_35 : decode cX6_placeOnBoard 35 = .ok (.aload_n 0, 1) := by decide +kernel
theorem dX6_placeOnBoard_36 : decode cX6_placeOnBoard 36 = .ok (.getfield 15, 3) := by decide +kernel
theorem dX6_placeOnBoard_39 : decode cX6_placeOnBoard 39 = .ok (.iload_n 1, 1) := by decide +kernel
theorem dX6_placeOnBoard_40 : decode cX6_placeOnBoard 40 = .ok (.iaload, 1) := by decide +kernel
theorem dX6_placeOnBoard_41 : decode cX6_placeOnBoard 41 = .ok (.aload_n 0, 1) := by decide +kernel
theorem dX6_placeOnBoard_42 : decode cX6_placeOnBoard 42 = .ok (.getfield 18, 3) := by decide +kernel
theorem dX6_placeOnBoard_45 : decode cX6_placeOnBoard 45 = .ok (.iload_n 1, 1) := by decide +kernel
theorem dX6_placeOnBoard_46 : decode cX6_placeOnBoard 46 = .ok (.iaload, 1) := by decide +kernel
theorem dX6_placeOnBoard_47 : decode cX6_placeOnBoard 47 = .ok (.if_icmp .ge 20, 3) := by decide +kernel
theorem dX6_placeOnBoard_50 : decode cX6_placeOnBoard 50 = .ok (.aload_n 0, 1) := by decide +kernel
theorem dX6_placeOnBoard_51 : decode cX6_placeOnBoard 51 = .ok (.getfield 27, 3) := by decide +kernel
theorem dX6_placeOnBoard_54 : decode cX6_placeOnBoard 54 = .ok (.aload_n 0, 1) := by decide +kernel
theorem dX6_placeOnBoard_55 : decode cX6_placeOnBoard 55 = .ok (.getfield 18, 3) := by decide +kernel
theorem dX6_placeOnBoard_58 : decode cX6_placeOnBoard 58 = .ok (.iload_n 1, 1) := by decide +kernel
theorem dX6_placeOnBoard_59 : decode cX6_placeOnBoard 59 = .ok (.iaload, 1) := by decide +kernel
theorem dX6_placeOnBoard_60 : decode cX6_placeOnBoard 60 = .ok (.dup2, 1) := by decide +kernel
theorem dX6_placeOnBoard_61 : decode cX6_placeOnBoard 61 = .ok (.iaload, 1) := by decide +kernel
theorem dX6_placeOnBoard_62 : decode cX6_placeOnBoard 62 = .ok (.iconst 1, 1) := by decide +kernel
theorem dX6_placeOnBoard_63 : decode cX6_placeOnBoard 63 = .ok (.iload_n 1, 1) := by decide +kernel
theorem dX6_placeOnBoard_64 : decode cX6_placeOnBoard 64 = .ok (.ishl, 1) := by decide +kernel
theorem dX6_placeOnBoard_65 : decode cX6_placeOnBoard 65 = .ok (.ior, 1) := by decide +kernel
theorem dX6_placeOnBoard_66 : decode cX6_placeOnBoard 66 = .ok (.iastore, 1) := by decide +kernel
theorem dX6_placeOnBoard_67 : decode cX6_placeOnBoard 67 = .ok (.return_, 1) := by decide +kernel
theorem dX6_readBag_0 : decode cX6_readBag 0 = .ok (.aload_n 0, 1) := by decide +kernel
theorem dX6_readBag_1 : decode cX6_readBag 1 = .ok (.getfield 33, 3) := by decide +kernel
theorem dX6_readBag_4 : decode cX6_readBag 4 = .ok (.iconst 0, 1) := by decide +kernel
theorem dX6_readBag_5 : decode cX6_readBag 5 = .ok (.putfield 72, 3) := by decide +kernel
theorem dX6_readBag_8 : decode cX6_readBag 8 = .ok (.aload_n 1, 1) := by decide +kernel
theorem dX6_readBag_9 : decode cX6_readBag 9 = .ok (.invokevirtual 73, 3) := by decide +kernel
theorem dX6_readBag_12 : decode cX6_readBag 12 = .ok (.iconst (-1), 1) := by decide +kernel
theorem dX6_readBag_13 : decode cX6_readBag 13 = .ok (.if_icmp .ne 10, 3) := by decide +kernel
theorem dX6_readBag_16 : decode cX6_readBag 16 = .ok (.aload_n 1, 1) := by decide +kernel
theorem dX6_readBag_17 : decode cX6_readBag 17 = .ok (.getfield 59, 3) := by decide +kernel
theorem dX6_readBag_20 : decode cX6_readBag 20 = .ok (.goto 4, 3) := by decide +kernel
theorem dX6_readBag_23 : decode cX6_readBag 23 = .ok (.iconst 0, 1) := by decide +kernel
theorem dX6_readBag_24 : decode cX6_readBag 24 = .ok (.istore_n 2, 1) := by decide +kernel
theorem dX6_readBag_25 : decode cX6_readBag 25 = .ok (.iconst 0, 1) := by decide +kernel
theorem dX6_readBag_26 : decode cX6_readBag 26 = .ok (.istore_n 3, 1) := by decide +kernel
theorem dX6_readBag_27 : decode cX6_readBag 27 = .ok (.iload_n 3, 1) := by decide +kernel
theorem dX6_readBag_28 : decode cX6_readBag 28 = .ok (.iload_n 2, 1) := by decide +kernel
theorem dX6_readBag_29 : decode cX6_readBag 29 = .ok (.if_icmp .ge 25, 3) := by decide +kernel
theorem dX6_readBag_32 : decode cX6_readBag 32 = .ok (.aload_n 0, 1) := by decide +kernel
theorem dX6_readBag_33 : decode cX6_readBag 33 = .ok (.getfield 33, 3) := by decide +kernel
theorem dX6_readBag_36 : decode cX6_readBag 36 = .ok (.aload_n 1, 1) := by decide +kernel
theorem dX6_readBag_37 : decode cX6_readBag 37 = .ok (.getfield 65, 3) := by decide +kernel
theorem dX6_readBag_40 : decode cX6_readBag 40 = .ok (.iload_n 3, 1) := by decide +kernel
theorem dX6_readBag_41 : decode cX6_readBag 41 = .ok (.iaload, 1) := by decide +kernel
theorem dX6_readBag_42 : decode cX6_readBag 42 = .ok (.invokestatic 76, 3) := by decide +kernel
theorem dX6_readBag_45 : decode cX6_readBag 45 = .ok (.invokevirtual 80, 3) := by decide +kernel
theorem dX6_readBag_48 : decode cX6_readBag 48 = .ok (.iinc 3 1, 3) := by decide +kernel
theorem dX6_readBag_51 : decode cX6_readBag 51 = .ok (.goto (-24), 3) := by decide +kernel
theorem dX6_readBag_54 : decode cX6_readBag 54 = .ok (.return_, 1) := by decide +kernel
theorem dX6_mayChange_0 : decode cX6_mayChange 0 = .ok (.iload_n 2, 1) := by decide +kernel
theorem dX6_mayChange_1 : decode cX6_mayChange 1 = .ok (.iconst (-1), 1) := by decide +kernel
theorem dX6_mayChange_2 : decode cX6_mayChange 2 = .ok (.if_icmp .eq 17, 3) := by decide +kernel
theorem dX6_mayChange_5 : decode cX6_mayChange 5 = .ok (.iload_n 2, 1) := by decide +kernel
theorem dX6_mayChange_6 : decode cX6_mayChange 6 = .ok (.ifCond .eq 13, 3) := by decide +kernel
theorem dX6_mayChange_9 : decode cX6_mayChange 9 = .ok (.iload_n 2, 1) := by decide +kernel
theorem dX6_mayChange_10 : decode cX6_mayChange 10 = .ok (.aload_n 0, 1) := by decide +kernel
theorem dX6_mayChange_11 : decode cX6_mayChange 11 = .ok (.getfield 21, 3) := by decide +kernel
theorem dX6_mayChange_14 : decode cX6_mayChange 14 = .ok (.iload_n 1, 1) := by decide +kernel
theorem dX6_mayChange_15 : decode cX6_mayChange 15 = .ok (.iaload, 1) := by decide +kernel
theorem dX6_mayChange_16 : decode cX6_mayChange 16 = .ok (.if_icmp .ne 5, 3) := by decide +kernel
theorem dX6_mayChange_19 : decode cX6_mayChange 19 = .ok (.iconst 0, 1) := by decide +kernel
theorem dX6_mayChange_20 : decode cX6_mayChange 20 = .ok (.ireturn, 1) := by decide +kernel
theorem dX6_mayChange_21 : decode cX6_mayChange 21 = .ok (.aload_n 0, 1) := by decide +kernel
theorem dX6_mayChange_22 : decode cX6_mayChange 22 = .ok (.getfield 37, 3) := by decide +kernel
theorem dX6_mayChange_25 : decode cX6_mayChange 25 = .ok (.iload_n 2, 1) := by decide +kernel
theorem dX6_mayChange_26 : decode cX6_mayChange 26 = .ok (.iaload, 1) := by decide +kernel
theorem dX6_mayChange_27 : decode cX6_mayChange 27 = .ok (.aload_n 0, 1) := by decide +kernel
theorem dX6_mayChange_28 : decode cX6_mayChange 28 = .ok (.getfield 37, 3) := by decide +kernel
theorem dX6_mayChange_31 : decode cX6_mayChange 31 = .ok (.aload_n 0, 1) := by decide +kernel
theorem dX6_mayChange_32 : decode cX6_mayChange 32 = .ok (.getfield 21, 3) := by decide +kernel
theorem dX6_mayChange_35 : decode cX6_mayChange 35 = .ok (.iload_n 1, 1) := by decide +kernel
theorem dX6_mayChange_36 : decode cX6_mayChange 36 = .ok (.iaload, 1) := by decide +kernel
theorem dX6_mayChange_37 : decode cX6_mayChange 37 = .ok (.iaload, 1) := by decide +kernel
theorem dX6_mayChange_38 : decode cX6_mayChange 38 = .ok (.isub, 1) := by decide +kernel
theorem dX6_mayChange_39 : decode cX6_mayChange 39 = .ok (.istore 4, 2) := by decide +kernel
theorem dX6_mayChange_41 : decode cX6_mayChange 41 = .ok (.iload 4, 2) := by decide +kernel
theorem dX6_mayChange_43 : decode cX6_mayChange 43 = .ok (.iload_n 3, 1) := by decide +kernel
theorem dX6_mayChange_44 : decode cX6_mayChange 44 = .ok (.if_icmp .gt 14, 3) := by decide +kernel
theorem dX6_mayChange_47 : decode cX6_mayChange 47 = .ok (.iload 4, 2) := by decide +kernel
theorem dX6_mayChange_49 : decode cX6_mayChange 49 = .ok (.ineg, 1) := by decide +kernel
theorem dX6_mayChange_50 : decode cX6_mayChange 50 = .ok (.iload_n 3, 1) := by decide +kernel
theorem dX6_mayChange_51 : decode cX6_mayChange 51 = .ok (.if_icmp .gt 7, 3) := by decide +kernel
theorem dX6_mayChange_54 : decode cX6_mayChange 54 = .ok (.iconst 1, 1) := by decide +kernel
theorem dX6_mayChange_55 : decode cX6_mayChange 55 = .ok (.goto 4, 3) := by decide +kernel
theorem dX6_mayChange_58 : decode cX6_mayChange 58 = .ok (.iconst 0, 1) := by decide +kernel
theorem dX6_mayChange_59 : decode cX6_mayChange 59 = .ok (.ireturn, 1) := by decide +kernel
theorem dX6_isRing_0 : decode cX6_isRing 0 = .ok (.aload_n 0, 1) := by decide +kernel
theorem dX6_isRing_1 : decode cX6_isRing 1 = .ok (.getfield 21, 3) := by decide +kernel
theorem dX6_isRing_4 : decode cX6_isRing 4 = .ok (.iload_n 1, 1) := by decide +kernel
theorem dX6_isRing_5 : decode cX6_isRing 5 = .ok (.iaload, 1) := by decide +kernel
theorem dX6_isRing_6 : decode cX6_isRing 6 = .ok (.aload_n 0, 1) := by decide +kernel
theorem dX6_isRing_7 : decode cX6_isRing 7 = .ok (.getfield 9, 3) := by decide +kernel
theorem dX6_isRing_10 : decode cX6_isRing 10 = .ok (.iload_n 2, 1) := by decide +kernel
theorem dX6_isRing_11 : decode cX6_isRing 11 = .ok (.iaload, 1) := by decide +kernel
theorem dX6_isRing_12 : decode cX6_isRing 12 = .ok (.if_icmp .ne 82, 3) := by decide +kernel
theorem dX6_isRing_15 : decode cX6_isRing 15 = .ok (.aload_n 0, 1) := by decide +kernel
theorem dX6_isRing_16 : decode cX6_isRing 16 = .ok (.getfield 21, 3) := by decide +kernel
theorem dX6_isRing_19 : decode cX6_isRing 19 = .ok (.iload_n 2, 1) := by decide +kernel
theorem dX6_isRing_20 : decode cX6_isRing 20 = .ok (.iaload, 1) := by decide +kernel
theorem dX6_isRing_21 : decode cX6_isRing 21 = .ok (.aload_n 0, 1) := by decide +kernel
theorem dX6_isRing_22 : decode cX6_isRing 22 = .ok (.getfield 9, 3) := by decide +kernel
theorem dX6_isRing_25 : decode cX6_isRing 25 = .ok (.iload_n 3, 1) := by decide +kernel
theorem dX6_isRing_26 : decode cX6_isRing 26 = .ok (.iaload, 1) := by decide +kernel
theorem dX6_isRing_27 : decode cX6_isRing 27 = .ok (.if_icmp .ne 67, 3) := by decide +kernel
theorem dX6_isRing_30 : decode cX6_isRing 30 = .ok (.aload_n 0, 1) := by decide +kernel
theorem dX6_isRing_31 : decode cX6_isRing 31 = .ok (.getfield 21, 3) := by decide +kernel
theorem dX6_isRing_34 : decode cX6_isRing 34 = .ok (.iload_n 3, 1) := by decide +kernel
theorem dX6_isRing_35 : decode cX6_isRing 35 = .ok (.iaload, 1) := by decide +kernel
theorem dX6_isRing_36 : decode cX6_isRing 36 = .ok (.aload_n 0, 1) := by decide +kernel
theorem dX6_isRing_37 : decode cX6_isRing 37 = .ok (.getfield 9, 3) := by decide +kernel
theorem dX6_isRing_40 : decode cX6_isRing 40 = .ok (.iload_n 1, 1) := by decide +kernel
theorem dX6_isRing_41 : decode cX6_isRing 41 = .ok (.iaload, 1) := by decide +kernel
theorem dX6_isRing_42 : decode cX6_isRing 42 = .ok (.if_icmp .ne 52, 3) := by decide +kernel
theorem dX6_isRing_45 : decode cX6_isRing 45 = .ok (.aload_n 0, 1) := by decide +kernel
theorem dX6_isRing_46 : decode cX6_isRing 46 = .ok (.getfield 21, 3) := by decide +kernel
theorem dX6_isRing_49 : decode cX6_isRing 49 = .ok (.iload_n 1, 1) := by decide +kernel
theorem dX6_isRing_50 : decode cX6_isRing 50 = .ok (.iaload, 1) := by decide +kernel
theorem dX6_isRing_51 : decode cX6_isRing 51 = .ok (.aload_n 0, 1) := by decide +kernel
theorem dX6_isRing_52 : decode cX6_isRing 52 = .ok (.getfield 9, 3) := by decide +kernel
theorem dX6_isRing_55 : decode cX6_isRing 55 = .ok (.iload_n 1, 1) := by decide +kernel
theorem dX6_isRing_56 : decode cX6_isRing 56 = .ok (.iaload, 1) := by decide +kernel
theorem dX6_isRing_57 : decode cX6_isRing 57 = .ok (.if_icmp .eq 37, 3) := by decide +kernel
theorem dX6_isRing_60 : decode cX6_isRing 60 = .ok (.aload_n 0, 1) := by decide +kernel
theorem dX6_isRing_61 : decode cX6_isRing 61 = .ok (.getfield 21, 3) := by decide +kernel
theorem dX6_isRing_64 : decode cX6_isRing 64 = .ok (.iload_n 2, 1) := by decide +kernel
theorem dX6_isRing_65 : decode cX6_isRing 65 = .ok (.iaload, 1) := by decide +kernel
theorem dX6_isRing_66 : decode cX6_isRing 66 = .ok (.aload_n 0, 1) := by decide +kernel
theorem dX6_isRing_67 : decode cX6_isRing 67 = .ok (.getfield 9, 3) := by decide +kernel
theorem dX6_isRing_70 : decode cX6_isRing 70 = .ok (.iload_n 2, 1) := by decide +kernel
theorem dX6_isRing_71 : decode cX6_isRing 71 = .ok (.iaload, 1) := by decide +kernel
theorem dX6_isRing_72 : decode cX6_isRing 72 = .ok (.if_icmp .eq 22, 3) := by decide +kernel
theorem dX6_isRing_75 : decode cX6_isRing 75 = .ok (.aload_n 0, 1) := by decide +kernel
theorem dX6_isRing_76 : decode cX6_isRing 76 = .ok (.getfield 21, 3) := by decide +kernel
theorem dX6_isRing_79 : decode cX6_isRing 79 = .ok (.iload_n 3, 1) := by decide +kernel
theorem dX6_isRing_80 : decode cX6_isRing 80 = .ok (.iaload, 1) := by decide +kernel
theorem dX6_isRing_81 : decode cX6_isRing 81 = .ok (.aload_n 0, 1) := by decide +kernel
theorem dX6_isRing_82 : decode cX6_isRing 82 = .ok (.getfield 9, 3) := by decide +kernel
theorem dX6_isRing_85 : decode cX6_isRing 85 = .ok (.iload_n 3, 1) := by decide +kernel
theorem dX6_isRing_86 : decode cX6_isRing 86 = .ok (.iaload, 1) := by decide +kernel
theorem dX6_isRing_87 : decode cX6_isRing 87 = .ok (.if_icmp .eq 7, 3) := by decide +kernel
theorem dX6_isRing_90 : decode cX6_isRing 90 = .ok (.iconst 1, 1) := by decide +kernel
theorem dX6_isRing_91 : decode cX6_isRing 91 = .ok (.goto 4, 3) := by decide +kernel
theorem dX6_isRing_94 : decode cX6_isRing 94 = .ok (.iconst 0, 1) := by decide +kernel
theorem dX6_isRing_95 : decode cX6_isRing 95 = .ok (.ireturn, 1) := by decide +kernel
end
section
theorem dX7_init_0 : decode cX7_init 0 = .ok (.aload_n 0, 1) := by decide +kernel
theorem dX7_init_1 : decode cX7_init 1 = .ok (.invokespecial 3, 3) := by decide +kernel
theorem dX7_init_4 : decode cX7_init 4 = .ok (.aload_n 0, 1) := by decide +kernel
theorem dX7_init_5 : decode cX7_init 5 = .ok (.iconst 2, 1) := by decide +kernel
theorem dX7_init_6 : decode cX7_init 6 = .ok (.anewarray 9, 3) := by decide +kernel
theorem dX7_init_9 : decode cX7_init 9 = .ok (.dup, 1) := by decide +kernel
theorem dX7_init_10 : decode cX7_init 10 = .ok (.iconst 0, 1) := by decide +kernel
theorem dX7_init_11 : decode cX7_init 11 = .ok (.new 9, 3) := by decide +kernel
theorem dX7_init_14 : decode cX7_init 14 = .ok (.dup, 1) := by decide +kernel
theorem dX7_init_15 : decode cX7_init 15 = .ok (.bipush 39, 2) := by decide +kernel
theorem dX7_init_17 : decode cX7_init 17 = .ok (.invokespecial 11, 3) := by decide +kernel
theorem dX7_init_20 : decode cX7_init 20 = .ok (.aastore, 1) := by decide +kernel
theorem dX7_init_21 : decode cX7_init 21 = .ok (.dup, 1) := by decide +kernel
theorem dX7_init_22 : decode cX7_init 22 = .ok (.iconst 1, 1) := by decide +kernel
theorem dX7_init_23 : decode cX7_init 23 = .ok (.new 9, 3) := by decide +kernel
theorem dX7_init_26 : decode cX7_init 26 = .ok (.dup, 1) := by decide +kernel
theorem dX7_init_27 : decode cX7_init 27 = .ok (.bipush 16, 2) := by decide +kernel
theorem dX7_init_29 : decode cX7_init 29 = .ok (.invokespecial 11, 3) := by decide +kernel
theorem dX7_init_32 : decode cX7_init 32 = .ok (.aastore, 1) := by decide +kernel
theorem dX7_init_33 : decode cX7_init 33 = .ok (.putfield 14, 3) := by decide +kernel
theorem dX7_init_36 : decode cX7_init 36 = .ok (.aload_n 0, 1) := by decide +kernel
theorem dX7_init_37 : decode cX7_init 37 = .ok (.new 18, 3) := by decide +kernel
theorem dX7_init_40 : decode cX7_init 40 = .ok (.dup, 1) := by decide +kernel
theorem dX7_init_41 : decode cX7_init 41 = .ok (.invokespecial 20, 3) := by decide +kernel
theorem dX7_init_44 : decode cX7_init 44 = .ok (.putfield 21, 3) := by decide +kernel
theorem dX7_init_47 : decode cX7_init 47 = .ok (.aload_n 0, 1) := by decide +kernel
theorem dX7_init_48 : decode cX7_init 48 = .ok (.new 25, 3) := by decide +kernel
theorem dX7_init_51 : decode cX7_init 51 = .ok (.dup, 1) := by decide +kernel
theorem dX7_init_52 : decode cX7_init 52 = .ok (.aload_n 0, 1) := by decide +kernel
theorem dX7_init_53 : decode cX7_init 53 = .ok (.getfield 21, 3) := by decide +kernel
theorem dX7_init_56 : decode cX7_init 56 = .ok (.invokespecial 27, 3) := by decide +kernel
theorem dX7_init_59 : decode cX7_init 59 = .ok (.putfield 30, 3) := by decide +kernel
theorem dX7_init_62 : decode cX7_init 62 = .ok (.aload_n 0, 1) := by decide +kernel
theorem dX7_init_63 : decode cX7_init 63 = .ok (.new 25, 3) := by decide +kernel
theorem dX7_init_66 : decode cX7_init 66 = .ok (.dup, 1) := by decide +kernel
theorem dX7_init_67 : decode cX7_init 67 = .ok (.aload_n 0, 1) := by decide +kernel
theorem dX7_init_68 : decode cX7_init 68 = .ok (.getfield 21, 3) := by decide +kernel
theorem dX7_init_71 : decode cX7_init 71 = .ok (.invokespecial 27, 3) := by decide +kernel
theorem dX7_init_74 : decode cX7_init 74 = .ok (.putfield 34, 3) := by decide +kernel
theorem dX7_init_77 : decode cX7_init 77 = .ok (.aload_n 0, 1) := by decide +kernel
theorem dX7_init_78 : decode cX7_init 78 = .ok (.new 37, 3) := by decide +kernel
theorem dX7_init_81 : decode cX7_init 81 = .ok (.dup, 1) := by decide +kernel
theorem dX7_init_82 : decode cX7_init 82 = .ok (.invokespecial 39, 3) := by decide +kernel
theorem dX7_init_85 : decode cX7_init 85 = .ok (.putfield 40, 3) := by decide +kernel
theorem dX7_init_88 : decode cX7_init 88 = .ok (.aload_n 0, 1) := by decide +kernel
theorem dX7_init_89 : decode cX7_init 89 = .ok (.new 44, 3) := by decide +kernel
theorem dX7_init_92 : decode cX7_init 92 = .ok (.dup, 1) := by decide +kernel
theorem dX7_init_93 : decode cX7_init 93 = .ok (.invokespecial 46, 3) := by decide +kernel
theorem dX7_init_96 : decode cX7_init 96 = .ok (.putfield 47, 3) := by decide +kernel
theorem dX7_init_99 : decode cX7_init 99 = .ok (.aload_n 0, 1) := by decide +kernel
theorem dX7_init_100 : decode cX7_init 100 = .ok (.iconst 4, 1) := by decide +kernel
theorem dX7_init_101 : decode cX7_init 101 = .ok (.anewarray 51, 3) := by decide +kernel
theorem dX7_init_104 : decode cX7_init 104 = .ok (.dup, 1) := by decide +kernel
theorem dX7_init_105 : decode cX7_init 105 = .ok (.iconst 0, 1) := by decide +kernel
theorem dX7_init_106 : decode cX7_init 106 = .ok (.new 51, 3) := by decide +kernel
theorem dX7_init_109 : decode cX7_init 109 = .ok (.dup, 1) := by decide +kernel
theorem dX7_init_110 : decode cX7_init 110 = .ok (.invokespecial 53, 3) := by decide +kernel
theorem dX7_init_113 : decode cX7_init 113 = .ok (.aastore, 1) := by decide +kernel
theorem dX7_init_114 : decode cX7_init 114 = .ok (.dup, 1) := by decide +kernel
theorem dX7_init_115 : decode cX7_init 115 = .ok (.iconst 1, 1) := by decide +kernel
theorem dX7_init_116 : decode cX7_init 116 = .ok (.new 51, 3) := by decide +kernel
theorem dX7_init_119 : decode cX7_init 119 = .ok (.dup, 1) := by decide +kernel
theorem dX7_init_120 : decode cX7_init 120 = .ok (.invokespecial 53, 3) := by decide +kernel
theorem dX7_init_123 : decode cX7_init 123 = .ok (.aastore, 1) := by decide +kernel
theorem dX7_init_124 : decode cX7_init 124 = .ok (.dup, 1) := by decide +kernel
theorem dX7_init_125 : decode cX7_init 125 = .ok (.iconst 2, 1) := by decide +kernel
theorem dX7_init_126 : decode cX7_init 126 = .ok (.new 51, 3) := by decide +kernel
theorem dX7_init_129 : decode cX7_init 129 = .ok (.dup, 1) := by decide +kernel
theorem dX7_init_130 : decode cX7_init 130 = .ok (.invokespecial 53, 3) := by decide +kernel
theorem dX7_init_133 : decode cX7_init 133 = .ok (.aastore, 1) := by decide +kernel
theorem dX7_init_134 : decode cX7_init 134 = .ok (.dup, 1) := by decide +kernel
theorem dX7_init_135 : decode cX7_init 135 = .ok (.iconst 3, 1) := by decide +kernel
theorem dX7_init_136 : decode cX7_init 136 = .ok (.new 51, 3) := by decide +kernel
theorem dX7_init_139 : decode cX7_init 139 = .ok (.dup, 1) := by decide +kernel
theorem dX7_init_140 : decode cX7_init 140 = .ok (.invokespecial 53, 3) := by decide +kernel
theorem dX7_init_143 : decode cX7_init 143 = .ok (.aastore, 1) := by decide +kernel
theorem dX7_init_144 : decode cX7_init 144 = .ok (.putfield 54, 3) := by decide +kernel
theorem dX7_init_147 : decode cX7_init 147 = .ok (.aload_n 0, 1) := by decide +kernel
theorem dX7_init_148 : decode cX7_init 148 = .ok (.bipush 8, 2) := by decide +kernel
theorem dX7_init_150 : decode cX7_init 150 = .ok (.bipush 9, 2) := by decide +kernel
theorem dX7_init_152 : decode cX7_init 152 = .ok (.multianewarray 58 2, 4) := by decide +kernel
theorem dX7_init_156 : decode cX7_init 156 = .ok (.putfield 60, 3) := by decide +kernel
theorem dX7_init_159 : decode cX7_init 159 = .ok (.aload_n 0, 1) := by decide +kernel
theorem dX7_init_160 : decode cX7_init 160 = .ok (.bipush 11, 2) := by decide +kernel
theorem dX7_init_162 : decode cX7_init 162 = .ok (.newarray .int, 2) := by decide +kernel
theorem dX7_init_164 : decode cX7_init 164 = .ok (.putfield 63, 3) := by decide +kernel
theorem dX7_init_167 : decode cX7_init 167 = .ok (.aload_n 0, 1) := by decide +kernel
theorem dX7_init_168 : decode cX7_init 168 = .ok (.invokevirtual 67, 3) := by decide +kernel
theorem dX7_init_171 : decode cX7_init 171 = .ok (.return_, 1) := by decide +kernel
theorem dX7_type_0 : decode cX7_type 0 = .ok (.iload_n 1, 1) := by decide +kernel
theorem dX7_type_1 : decode cX7_type 1 = .ok (.aload_n 0, 1) := by decide +kernel
theorem dX7_type_2 : decode cX7_type 2 = .ok (.getfield 14, 3) := by decide +kernel
theorem dX7_type_5 : decode cX7_type 5 = .ok (.arraylength, 1) := by decide +kernel
theorem dX7_type_6 : decode cX7_type 6 = .ok (.invokestatic 70, 3) := by decide +kernel
theorem dX7_type_9 : decode cX7_type 9 = .ok (.ifCond .ne 13, 3) := by decide +kernel
theorem dX7_type_12 : decode cX7_type 12 = .ok (.iload_n 2, 1) := by decide +kernel
theorem dX7_type_13 : decode cX7_type 13 = .ok (.sipush 256, 3) := by decide +kernel
theorem dX7_type_16 : decode cX7_type 16 = .ok (.invokestatic 70, 3) := by decide +kernel
theorem dX7_type_19 : decode cX7_type 19 = .ok (.ifCond .eq 6, 3) := by decide +kernel
theorem dX7_type_22 : decode cX7_type 22 = .ok (.bipush (-2), 2) := by decide +kernel
theorem dX7_type_24 : decode cX7_type 24 = .ok (.ireturn, 1) := by decide +kernel
theorem dX7_type_25 : decode cX7_type 25 = .ok (.aload_n 0, 1) := by decide +kernel
theorem dX7_type_26 : decode cX7_type 26 = .ok (.getfield 14, 3) := by decide +kernel
theorem dX7_type_29 : decode cX7_type 29 = .ok (.iload_n 1, 1) := by decide +kernel
theorem dX7_type_30 : decode cX7_type 30 = .ok (.aaload, 1) := by decide +kernel
theorem dX7_type_31 : decode cX7_type 31 = .ok (.invokevirtual 74, 3) := by decide +kernel
theorem dX7_type_34 : decode cX7_type 34 = .ok (.ifCond .eq 6, 3) := by decide +kernel
theorem dX7_type_37 : decode cX7_type 37 = .ok (.bipush (-4), 2) := by decide +kernel
theorem dX7_type_39 : decode cX7_type 39 = .ok (.ireturn, 1) := by decide +kernel
theorem dX7_type_40 : decode cX7_type 40 = .ok (.aload_n 0, 1) := by decide +kernel
theorem dX7_type_41 : decode cX7_type 41 = .ok (.getfield 14, 3) := by decide +kernel
theorem dX7_type_44 : decode cX7_type 44 = .ok (.iload_n 1, 1) := by decide +kernel
theorem dX7_type_45 : decode cX7_type 45 = .ok (.aaload, 1) := by decide +kernel
theorem dX7_type_46 : decode cX7_type 46 = .ok (.iload_n 2, 1) := by decide +kernel
theorem dX7_type_47 : decode cX7_type 47 = .ok (.invokevirtual 78, 3) := by decide +kernel
theorem dX7_type_50 : decode cX7_type 50 = .ok (.aload_n 0, 1) := by decide +kernel
theorem dX7_type_51 : decode cX7_type 51 = .ok (.invokevirtual 67, 3) := by decide +kernel
theorem dX7_type_54 : decode cX7_type 54 = .ok (.aload_n 0, 1) := by decide +kernel
theorem dX7_type_55 : decode cX7_type 55 = .ok (.getfield 14, 3) := by decide +kernel
theorem dX7_type_58 : decode cX7_type 58 = .ok (.iload_n 1, 1) := by decide +kernel
theorem dX7_type_59 : decode cX7_type 59 = .ok (.aaload, 1) := by decide +kernel
theorem dX7_type_60 : decode cX7_type 60 = .ok (.getfield 81, 3) := by decide +kernel
theorem dX7_type_63 : decode cX7_type 63 = .ok (.ireturn, 1) := by decide +kernel
theorem dX7_wipe_0 : decode cX7_wipe 0 = .ok (.iload_n 1, 1) := by decide +kernel
theorem dX7_wipe_1 : decode cX7_wipe 1 = .ok (.aload_n 0, 1) := by decide +kernel
theorem dX7_wipe_2 : decode cX7_wipe 2 = .ok (.getfield 14, 3) := by decide +kernel
theorem dX7_wipe_5 : decode cX7_wipe 5 = .ok (.arraylength, 1) := by decide +kernel
theorem dX7_wipe_6 : decode cX7_wipe 6 = .ok (.invokestatic 70, 3) := by decide +kernel
theorem dX7_wipe_9 : decode cX7_wipe 9 = .ok (.ifCond .eq 6, 3) := by decide +kernel
theorem dX7_wipe_12 : decode cX7_wipe 12 = .ok (.bipush (-2), 2) := by decide +kernel
theorem dX7_wipe_14 : decode cX7_wipe 14 = .ok (.ireturn, 1) := by decide +kernel
theorem dX7_wipe_15 : decode cX7_wipe 15 = .ok (.aload_n 0, 1) := by decide +kernel
theorem dX7_wipe_16 : decode cX7_wipe 16 = .ok (.getfield 14, 3) := by decide +kernel
theorem dX7_wipe_19 : decode cX7_wipe 19 = .ok (.iload_n 1, 1) := by decide +kernel
theorem dX7_wipe_20 : decode cX7_wipe 20 = .ok (.aaload, 1) := by decide +kernel
theorem dX7_wipe_21 : decode cX7_wipe 21 = .ok (.getfield 81, 3) := by decide +kernel
theorem dX7_wipe_24 : decode cX7_wipe 24 = .ok (.istore_n 2, 1) := by decide +kernel
theorem dX7_wipe_25 : decode cX7_wipe 25 = .ok (.aload_n 0, 1) := by decide +kernel
theorem dX7_wipe_26 : decode cX7_wipe 26 = .ok (.getfield 14, 3) := by decide +kernel
theorem dX7_wipe_29 : decode cX7_wipe 29 = .ok (.iload_n 1, 1) := by decide +kernel
theorem dX7_wipe_30 : decode cX7_wipe 30 = .ok (.aaload, 1) := by decide +kernel
theorem dX7_wipe_31 : decode cX7_wipe 31 = .ok (.iconst 0, 1) := by decide +kernel
theorem dX7_wipe_32 : decode cX7_wipe 32 = .ok (.putfield 81, 3) := by decide +kernel
theorem dX7_wipe_35 : decode cX7_wipe 35 = .ok (.aload_n 0, 1) := by decide +kernel
theorem dX7_wipe_36 : decode cX7_wipe 36 = .ok (.invokevirtual 67, 3) := by decide +kernel
theorem dX7_wipe_39 : decode cX7_wipe 39 = .ok (.iload_n 2, 1) := by decide +kernel
theorem dX7_wipe_40 : decode cX7_wipe 40 = .ok (.ireturn, 1) := by decide +kernel
theorem dX7_undo_0 : decode cX7_undo 0 = .ok (.iload_n 1, 1) := by decide +kernel
theorem dX7_undo_1 : decode cX7_undo 1 = .ok (.aload_n 0, 1) := by decide +kernel
theorem dX7_undo_2 : decode cX7_undo 2 = .ok (.getfield 14, 3) := by decide +kernel
theorem dX7_undo_5 : decode cX7_undo 5 = .ok (.arraylength, 1) := by decide +kernel
theorem dX7_undo_6 : decode cX7_undo 6 = .ok (.invokestatic 70, 3) := by decide +kernel
theorem dX7_undo_9 : decode cX7_undo 9 = .ok (.ifCond .eq 6, 3) := by decide +kernel
theorem dX7_undo_12 : decode cX7_undo 12 = .ok (.bipush (-2), 2) := by decide +kernel
theorem dX7_undo_14 : decode cX7_undo 14 = .ok (.ireturn, 1) := by decide +kernel
theorem dX7_undo_15 : decode cX7_undo 15 = .ok (.aload_n 0, 1) := by decide +kernel
theorem dX7_undo_16 : decode cX7_undo 16 = .ok (.getfield 14, 3) := by decide +kernel
theorem dX7_undo_19 : decode cX7_undo 19 = .ok (.iload_n 1, 1) := by decide +kernel
theorem dX7_undo_20 : decode cX7_undo 20 = .ok (.aaload, 1) := by decide +kernel
theorem dX7_undo_21 : decode cX7_undo 21 = .ok (.getfield 81, 3) := by decide +kernel
theorem dX7_undo_24 : decode cX7_undo 24 = .ok (.ifCond .ne 6, 3) := by decide +kernel
theorem dX7_undo_27 : decode cX7_undo 27 = .ok (.bipush (-3), 2) := by decide +kernel
theorem dX7_undo_29 : decode cX7_undo 29 = .ok (.ireturn, 1) := by decide +kernel
theorem dX7_undo_30 : decode cX7_undo 30 = .ok (.aload_n 0, 1) := by decide +kernel
theorem dX7_undo_31 : decode cX7_undo 31 = .ok (.getfield 14, 3) := by decide +kernel
theorem dX7_undo_34 : decode cX7_undo 34 = .ok (.iload_n 1, 1) := by decide +kernel
theorem dX7_undo_35 : decode cX7_undo 35 = .ok (.aaload, 1) := by decide +kernel
theorem dX7_undo_36 : decode cX7_undo 36 = .ok (.dup, 1) := by decide +kernel
theorem dX7_undo_37 : decode cX7_undo 37 = .ok (.getfield 81, 3) := by decide +kernel
theorem dX7_undo_40 : decode cX7_undo 40 = .ok (.iconst 1, 1) := by decide +kernel
theorem dX7_undo_41 : decode cX7_undo 41 = .ok (.isub, 1) := by decide +kernel
theorem dX7_undo_42 : decode cX7_undo 42 = .ok (.putfield 81, 3) := by decide +kernel
theorem dX7_undo_45 : decode cX7_undo 45 = .ok (.aload_n 0, 1) := by decide +kernel
theorem dX7_undo_46 : decode cX7_undo 46 = .ok (.invokevirtual 67, 3) := by decide +kernel
theorem dX7_undo_49 : decode cX7_undo 49 = .ok (.aload_n 0, 1) := by decide +kernel
theorem dX7_undo_50 : decode cX7_undo 50 = .ok (.getfield 14, 3) := by decide +kernel
theorem dX7_undo_53 : decode cX7_undo 53 = .ok (.iload_n 1, 1) := by decide +kernel
theorem dX7_undo_54 : decode cX7_undo 54 = .ok (.aaload, 1) := by decide +kernel
theorem dX7_undo_55 : decode cX7_undo 55 = .ok (.getfield 81, 3) := by decide +kernel
theorem dX7_undo_58 : decode cX7_undo 58 = .ok (.ireturn, 1) := by decide +kernel
theorem dX7_fault_0 : decode cX7_fault 0 = .ok (.iload_n 1, 1) := by decide +kernel
theorem dX7_fault_1 : decode cX7_fault 1 = .ok (.aload_n 0, 1) := by decide +kernel
theorem dX7_fault_2 : decode cX7_fault 2 = .ok (.getfield 14, 3) := by decide +kernel
theorem dX7_fault_5 : decode cX7_fault 5 = .ok (.arraylength, 1) := by decide +kernel
theorem dX7_fault_6 : decode cX7_fault 6 = .ok (.invokestatic 70, 3) := by decide +kernel
theorem dX7_fault_9 : decode cX7_fault 9 = .ok (.ifCond .eq 6, 3) := by decide +kernel
theorem dX7_fault_12 : decode cX7_fault 12 = .ok (.bipush (-2), 2) := by decide +kernel
theorem dX7_fault_14 : decode cX7_fault 14 = .ok (.ireturn, 1) := by decide +kernel
theorem dX7_fault_15 : decode cX7_fault 15 = .ok (.iload_n 1, 1) := by decide +kernel
theorem dX7_fault_16 : decode cX7_fault 16 = .ok (.ifCond .ne 15, 3) := by decide +kernel
theorem dX7_fault_19 : decode cX7_fault 19 = .ok (.aload_n 0, 1) := by decide +kernel
theorem dX7_fault_20 : decode cX7_fault 20 = .ok (.getfield 14, 3) := by decide +kernel
theorem dX7_fault_23 : decode cX7_fault 23 = .ok (.iconst 0, 1) := by decide +kernel
theorem dX7_fault_24 : decode cX7_fault 24 = .ok (.aaload, 1) := by decide +kernel
theorem dX7_fault_25 : decode cX7_fault 25 = .ok (.invokevirtual 85, 3) := by decide +kernel
theorem dX7_fault_28 : decode cX7_fault 28 = .ok (.goto 12, 3) := by decide +kernel
theorem dX7_fault_31 : decode cX7_fault 31 = .ok (.aload_n 0, 1) := by decide +kernel
theorem dX7_fault_32 : decode cX7_fault 32 = .ok (.getfield 14, 3) := by decide +kernel
theorem dX7_fault_35 : decode cX7_fault 35 = .ok (.iconst 1, 1) := by decide +kernel
theorem dX7_fault_36 : decode cX7_fault 36 = .ok (.aaload, 1) := by decide +kernel
theorem dX7_fault_37 : decode cX7_fault 37 = .ok (.invokevirtual 89, 3) := by decide +kernel
theorem dX7_fault_40 : decode cX7_fault 40 = .ok (.ireturn, 1) := by decide +kernel
theorem dX7_rider_0 : decode cX7_rider 0 = .ok (.iload_n 1, 1) := by decide +kernel
theorem dX7_rider_1 : decode cX7_rider 1 = .ok (.aload_n 0, 1) := by decide +kernel
theorem dX7_rider_2 : decode cX7_rider 2 = .ok (.getfield 21, 3) := by decide +kernel
theorem dX7_rider_5 : decode cX7_rider 5 = .ok (.getfield 92, 3) := by decide +kernel
theorem dX7_rider_8 : decode cX7_rider 8 = .ok (.invokestatic 70, 3) := by decide +kernel
theorem dX7_rider_11 : decode cX7_rider 11 = .ok (.ifCond .eq 6, 3) := by decide +kernel
theorem dX7_rider_14 : decode cX7_rider 14 = .ok (.bipush (-2), 2) := by decide +kernel
theorem dX7_rider_16 : decode cX7_rider 16 = .ok (.ireturn, 1) := by decide +kernel
theorem dX7_rider_17 : decode cX7_rider 17 = .ok (.iload_n 2, 1) := by decide +kernel
theorem dX7_rider_18 : decode cX7_rider 18 = .ok (.tableswitch 70 0 3 #[30, 40, 50, 60], 30) := by decide +kernel
theorem dX7_rider_48 : decode cX7_rider 48 = .ok (.aload_n 0, 1) := by decide +kernel
theorem dX7_rider_49 : decode cX7_rider 49 = .ok (.getfield 21, 3) := by decide +kernel
theorem dX7_rider_52 : decode cX7_rider 52 = .ok (.getfield 95, 3) := by decide +kernel
theorem dX7_rider_55 : decode cX7_rider 55 = .ok (.iload_n 1, 1) := by decide +kernel
theorem dX7_rider_56 : decode cX7_rider 56 = .ok (.iaload, 1) := by decide +kernel
theorem dX7_rider_57 : decode cX7_rider 57 = .ok (.ireturn, 1) := by decide +kernel
theorem dX7_rider_58 : decode cX7_rider 58 = .ok (.aload_n 0, 1) := by decide +kernel
theorem dX7_rider_59 : decode cX7_rider 59 = .ok (.getfield 21, 3) := by decide +kernel
theorem dX7_rider_62 : decode cX7_rider 62 = .ok (.getfield 98, 3) := by decide +kernel
theorem dX7_rider_65 : decode cX7_rider 65 = .ok (.iload_n 1, 1) := by decide +kernel
theorem dX7_rider_66 : decode cX7_rider 66 = .ok (.iaload, 1) := by decide +kernel
theorem dX7_rider_67 : decode cX7_rider 67 = .ok (.ireturn, 1) := by decide +kernel
theorem dX7_rider_68 : decode cX7_rider 68 = .ok (.aload_n 0, 1) := by decide +kernel
theorem dX7_rider_69 : decode cX7_rider 69 = .ok (.getfield 21, 3) := by decide +kernel
theorem dX7_rider_72 : decode cX7_rider 72 = .ok (.getfield 101, 3) := by decide +kernel
theorem dX7_rider_75 : decode cX7_rider 75 = .ok (.iload_n 1, 1) := by decide +kernel
theorem dX7_rider_76 : decode cX7_rider 76 = .ok (.iaload, 1) := by decide +kernel
theorem dX7_rider_77 : decode cX7_rider 77 = .ok (.ireturn, 1) := by decide +kernel
theorem dX7_rider_78 : decode cX7_rider 78 = .ok (.aload_n 0, 1) := by decide +kernel
theorem dX7_rider_79 : decode cX7_rider 79 = .ok (.getfield 21, 3) := by decide +kernel
theorem dX7_rider_82 : decode cX7_rider 82 = .ok (.getfield 104, 3) := by decide +kernel
theorem dX7_rider_85 : decode cX7_rider 85 = .ok (.iload_n 1, 1) := by decide +kernel
theorem dX7_rider_86 : decode cX7_rider 86 = .ok (.iaload, 1) := by decide +kernel
theorem dX7_rider_87 : decode cX7_rider 87 = .ok (.ireturn, 1) := by decide +kernel
theorem dX7_rider_88 : decode cX7_rider 88 = .ok (.bipush (-2), 2) := by decide +kernel
theorem dX7_rider_90 : decode cX7_rider 90 = .ok (.ireturn, 1) := by decide +kernel
theorem dX7_worth_0 : decode cX7_worth 0 = .ok (.iload_n 1, 1) := by decide +kernel
theorem dX7_worth_1 : decode cX7_worth 1 = .ok (.bipush 8, 2) := by decide +kernel
theorem dX7_worth_3 : decode cX7_worth 3 = .ok (.invokestatic 70, 3) := by decide +kernel
theorem dX7_worth_6 : decode cX7_worth 6 = .ok (.ifCond .ne 12, 3) := by decide +kernel
theorem dX7_worth_9 : decode cX7_worth 9 = .ok (.iload_n 2, 1) := by decide +kernel
theorem dX7_worth_10 : decode cX7_worth 10 = .ok (.bipush 10, 2) := by decide +kernel
theorem dX7_worth_12 : decode cX7_worth 12 = .ok (.invokestatic 70, 3) := by decide +kernel
theorem dX7_worth_15 : decode cX7_worth 15 = .ok (.ifCond .eq 6, 3) := by decide +kernel
theorem dX7_worth_18 : decode cX7_worth 18 = .ok (.bipush (-2), 2) := by decide +kernel
theorem dX7_worth_20 : decode cX7_worth 20 = .ok (.ireturn, 1) := by decide +kernel
theorem dX7_worth_21 : decode cX7_worth 21 = .ok (.aload_n 0, 1) := by decide +kernel
theorem dX7_worth_22 : decode cX7_worth 22 = .ok (.getfield 21, 3) := by decide +kernel
theorem dX7_worth_25 : decode cX7_worth 25 = .ok (.getfield 107, 3) := by decide +kernel
theorem dX7_worth_28 : decode cX7_worth 28 = .ok (.iload_n 1, 1) := by decide +kernel
theorem dX7_worth_29 : decode cX7_worth 29 = .ok (.iaload, 1) := by decide +kernel
theorem dX7_worth_30 : decode cX7_worth 30 = .ok (.istore_n 3, 1) := by decide +kernel
theorem dX7_worth_31 : decode cX7_worth 31 = .ok (.aload_n 0, 1) := by decide +kernel
theorem dX7_worth_32 : decode cX7_worth 32 = .ok (.getfield 21, 3) := by decide +kernel
theorem dX7_worth_35 : decode cX7_worth 35 = .ok (.getfield 107, 3) := by decide +kernel
theorem dX7_worth_38 : decode cX7_worth 38 = .ok (.iload_n 1, 1) := by decide +kernel
theorem dX7_worth_39 : decode cX7_worth 39 = .ok (.iload_n 2, 1) := by decide +kernel
theorem dX7_worth_40 : decode cX7_worth 40 = .ok (.iastore, 1) := by decide +kernel
theorem dX7_worth_41 : decode cX7_worth 41 = .ok (.aload_n 0, 1) := by decide +kernel
theorem dX7_worth_42 : decode cX7_worth 42 = .ok (.invokevirtual 67, 3) := by decide +kernel
theorem dX7_worth_45 : decode cX7_worth 45 = .ok (.iload_n 3, 1) := by decide +kernel
theorem dX7_worth_46 : decode cX7_worth 46 = .ok (.ireturn, 1) := by decide +kernel
theorem dX7_set_0 : decode cX7_set 0 = .ok (.iload_n 1, 1) := by decide +kernel
theorem dX7_set_1 : decode cX7_set 1 = .ok (.tableswitch 89 0 2 #[27, 47, 68], 27) := by decide +kernel
theorem dX7_set_28 : decode cX7_set 28 = .ok (.iload_n 2, 1) := by decide +kernel
theorem dX7_set_29 : decode cX7_set 29 = .ok (.bipush 10, 2) := by decide +kernel
theorem dX7_set_31 : decode cX7_set 31 = .ok (.invokestatic 70, 3) := by decide +kernel
theorem dX7_set_34 : decode cX7_set 34 = .ok (.ifCond .eq 8, 3) := by decide +kernel
theorem dX7_set_37 : decode cX7_set 37 = .ok (.bipush (-2), 2) := by decide +kernel
theorem dX7_set_39 : decode cX7_set 39 = .ok (.goto 8, 3) := by decide +kernel
theorem dX7_set_42 : decode cX7_set 42 = .ok (.aload_n 0, 1) := by decide +kernel
theorem dX7_set_43 : decode cX7_set 43 = .ok (.iload_n 2, 1) := by decide +kernel
theorem dX7_set_44 : decode cX7_set 44 = .ok (.invokevirtual 110, 3) := by decide +kernel
theorem dX7_set_47 : decode cX7_set 47 = .ok (.ireturn, 1) := by decide +kernel
theorem dX7_set_48 : decode cX7_set 48 = .ok (.iload_n 2, 1) := by decide +kernel
theorem dX7_set_49 : decode cX7_set 49 = .ok (.sipush 1024, 3) := by decide +kernel
theorem dX7_set_52 : decode cX7_set 52 = .ok (.invokestatic 70, 3) := by decide +kernel
theorem dX7_set_55 : decode cX7_set 55 = .ok (.ifCond .eq 8, 3) := by decide +kernel
theorem dX7_set_58 : decode cX7_set 58 = .ok (.bipush (-2), 2) := by decide +kernel
theorem dX7_set_60 : decode cX7_set 60 = .ok (.goto 8, 3) := by decide +kernel
theorem dX7_set_63 : decode cX7_set 63 = .ok (.aload_n 0, 1) := by decide +kernel
theorem dX7_set_64 : decode cX7_set 64 = .ok (.iload_n 2, 1) := by decide +kernel
theorem dX7_set_65 : decode cX7_set 65 = .ok (.invokevirtual 114, 3) := by decide +kernel
theorem dX7_set_68 : decode cX7_set 68 = .ok (.ireturn, 1) := by decide +kernel
theorem dX7_set_69 : decode cX7_set 69 = .ok (.iload_n 2, 1) := by decide +kernel
theorem dX7_set_70 : decode cX7_set 70 = .ok (.sipush 256, 3) := by decide +kernel
theorem dX7_set_73 : decode cX7_set 73 = .ok (.invokestatic 70, 3) := by decide +kernel
theorem dX7_set_76 : decode cX7_set 76 = .ok (.ifCond .eq 8, 3) := by decide +kernel
theorem dX7_set_79 : decode cX7_set 79 = .ok (.bipush (-2), 2) := by decide +kernel
theorem dX7_set_81 : decode cX7_set 81 = .ok (.goto 8, 3) := by decide +kernel
theorem dX7_set_84 : decode cX7_set 84 = .ok (.aload_n 0, 1) := by decide +kernel
theorem dX7_set_85 : decode cX7_set 85 = .ok (.iload_n 2, 1) := by decide +kernel
theorem dX7_set_86 : decode cX7_set 86 = .ok (.invokevirtual 117, 3) := by decide +kernel
theorem dX7_set_89 : decode cX7_set 89 = .ok (.ireturn, 1) := by decide +kernel
theorem dX7_set_90 : decode cX7_set 90 = .ok (.bipush (-2), 2) := by decide +kernel
theorem dX7_set_92 : decode cX7_set 92 = .ok (.ireturn, 1) := by decide +kernel
theorem dX7_has_0 : decode cX7_has 0 = .ok (.iload_n 1, 1) := by decide +kernel
theorem dX7_has_1 : decode cX7_has 1 = .ok (.bipush 10, 2) := by decide +kernel
theorem dX7_has_3 : decode cX7_has 3 = .ok (.invokestatic 70, 3) := by decide +kernel
theorem dX7_has_6 : decode cX7_has 6 = .ok (.ifCond .ne 17, 3) := by decide +kernel
theorem dX7_has_9 : decode cX7_has 9 = .ok (.iload_n 2, 1) := by decide +kernel
theorem dX7_has_10 : decode cX7_has 10 = .ok (.aload_n 0, 1) := by decide +kernel
theorem dX7_has_11 : decode cX7_has 11 = .ok (.getfield 21, 3) := by decide +kernel
theorem dX7_has_14 : decode cX7_has 14 = .ok (.getfield 92, 3) := by decide +kernel
theorem dX7_has_17 : decode cX7_has 17 = .ok (.invokestatic 70, 3) := by decide +kernel
theorem dX7_has_20 : decode cX7_has 20 = .ok (.ifCond .eq 6, 3) := by decide +kernel
theorem dX7_has_23 : decode cX7_has 23 = .ok (.bipush (-2), 2) := by decide +kernel
theorem dX7_has_25 : decode cX7_has 25 = .ok (.ireturn, 1) := by decide +kernel
theorem dX7_has_26 : decode cX7_has 26 = .ok (.aload_n 0, 1) := by decide +kernel
theorem dX7_has_27 : decode cX7_has 27 = .ok (.getfield 30, 3) := by decide +kernel
theorem dX7_has_30 : decode cX7_has 30 = .ok (.iload_n 1, 1) := by decide +kernel
theorem dX7_has_31 : decode cX7_has 31 = .ok (.iload_n 2, 1) := by decide +kernel
theorem dX7_has_32 : decode cX7_has 32 = .ok (.invokevirtual 120, 3) := by decide +kernel
theorem dX7_has_35 : decode cX7_has 35 = .ok (.ireturn, 1) := by decide +kernel
theorem dX7_torn_0 : decode cX7_torn 0 = .ok (.iload_n 1, 1) := by decide +kernel
theorem dX7_torn_1 : decode cX7_torn 1 = .ok (.bipush 10, 2) := by decide +kernel
theorem dX7_torn_3 : decode cX7_torn 3 = .ok (.invokestatic 70, 3) := by decide +kernel
theorem dX7_torn_6 : decode cX7_torn 6 = .ok (.ifCond .ne 17, 3) := by decide +kernel
theorem dX7_torn_9 : decode cX7_torn 9 = .ok (.iload_n 2, 1) := by decide +kernel
theorem dX7_torn_10 : decode cX7_torn 10 = .ok (.aload_n 0, 1) := by decide +kernel
theorem dX7_torn_11 : decode cX7_torn 11 = .ok (.getfield 21, 3) := by decide +kernel
theorem dX7_torn_14 : decode cX7_torn 14 = .ok (.getfield 92, 3) := by decide +kernel
theorem dX7_torn_17 : decode cX7_torn 17 = .ok (.invokestatic 70, 3) := by decide +kernel
theorem dX7_torn_20 : decode cX7_torn 20 = .ok (.ifCond .eq 6, 3) := by decide +kernel
theorem dX7_torn_23 : decode cX7_torn 23 = .ok (.bipush (-2), 2) := by decide +kernel
theorem dX7_torn_25 : decode cX7_torn 25 = .ok (.ireturn, 1) := by decide +kernel
theorem dX7_torn_26 : decode cX7_torn 26 = .ok (.aload_n 0, 1) := by decide +kernel
theorem dX7_torn_27 : decode cX7_torn 27 = .ok (.getfield 30, 3) := by decide +kernel
theorem dX7_torn_30 : decode cX7_torn 30 = .ok (.iload_n 1, 1) := by decide +kernel
theorem dX7_torn_31 : decode cX7_torn 31 = .ok (.invokevirtual 124, 3) := by decide +kernel
theorem dX7_torn_34 : decode cX7_torn 34 = .ok (.iload_n 2, 1) := by decide +kernel
theorem dX7_torn_35 : decode cX7_torn 35 = .ok (.ishr, 1) := by decide +kernel
theorem dX7_torn_36 : decode cX7_torn 36 = .ok (.iconst 1, 1) := by decide +kernel
theorem dX7_torn_37 : decode cX7_torn 37 = .ok (.iand, 1) := by decide +kernel
theorem dX7_torn_38 : decode cX7_torn 38 = .ok (.ireturn, 1) := by decide +kernel
theorem dX7_bag_0 : decode cX7_bag 0 = .ok (.iload_n 1, 1) := by decide +kernel
theorem dX7_bag_1 : decode cX7_bag 1 = .ok (.bipush 10, 2) := by decide +kernel
theorem dX7_bag_3 : decode cX7_bag 3 = .ok (.invokestatic 70, 3) := by decide +kernel
theorem dX7_bag_6 : decode cX7_bag 6 = .ok (.ifCond .ne 14, 3) := by decide +kernel
theorem dX7_bag_9 : decode cX7_bag 9 = .ok (.iload_n 2, 1) := by decide +kernel
theorem dX7_bag_10 : decode cX7_bag 10 = .ok (.iconst (-1), 1) := by decide +kernel
theorem dX7_bag_11 : decode cX7_bag 11 = .ok (.if_icmp .lt 9, 3) := by decide +kernel
theorem dX7_bag_14 : decode cX7_bag 14 = .ok (.iload_n 2, 1) := by decide +kernel
theorem dX7_bag_15 : decode cX7_bag 15 = .ok (.bipush 27, 2) := by decide +kernel
theorem dX7_bag_17 : decode cX7_bag 17 = .ok (.if_icmp .le 6, 3) := by decide +kernel
theorem dX7_bag_20 : decode cX7_bag 20 = .ok (.bipush (-2), 2) := by decide +kernel
theorem dX7_bag_22 : decode cX7_bag 22 = .ok (.ireturn, 1) := by decide +kernel
theorem dX7_bag_23 : decode cX7_bag 23 = .ok (.aload_n 0, 1) := by decide +kernel
theorem dX7_bag_24 : decode cX7_bag 24 = .ok (.getfield 30, 3) := by decide +kernel
theorem dX7_bag_27 : decode cX7_bag 27 = .ok (.iload_n 1, 1) := by decide +kernel
theorem dX7_bag_28 : decode cX7_bag 28 = .ok (.invokevirtual 127, 3) := by decide +kernel
theorem dX7_bag_31 : decode cX7_bag 31 = .ok (.astore_n 3, 1) := by decide +kernel
theorem dX7_bag_32 : decode cX7_bag 32 = .ok (.iload_n 2, 1) := by decide +kernel
theorem dX7_bag_33 : decode cX7_bag 33 = .ok (.iconst (-1), 1) := by decide +kernel
theorem dX7_bag_34 : decode cX7_bag 34 = .ok (.if_icmp .ne 8, 3) := by decide +kernel
theorem dX7_bag_37 : decode cX7_bag 37 = .ok (.aload_n 3, 1) := by decide +kernel
theorem dX7_bag_38 : decode cX7_bag 38 = .ok (.getfield 131, 3) := by decide +kernel
theorem dX7_bag_41 : decode cX7_bag 41 = .ok (.ireturn, 1) := by decide +kernel
theorem dX7_bag_42 : decode cX7_bag 42 = .ok (.iload_n 2, 1) := by decide +kernel
theorem dX7_bag_43 : decode cX7_bag 43 = .ok (.aload_n 3, 1) := by decide +kernel
theorem dX7_bag_44 : decode cX7_bag 44 = .ok (.getfield 131, 3) := by decide +kernel
theorem dX7_bag_47 : decode cX7_bag 47 = .ok (.if_icmp .ge 12, 3) := by decide +kernel
theorem dX7_bag_50 : decode cX7_bag 50 = .ok (.aload_n 3, 1) := by decide +kernel
theorem dX7_bag_51 : decode cX7_bag 51 = .ok (.getfield 134, 3) := by decide +kernel
theorem dX7_bag_54 : decode cX7_bag 54 = .ok (.iload_n 2, 1) := by decide +kernel
theorem dX7_bag_55 : decode cX7_bag 55 = .ok (.iaload, 1) := by decide +kernel
theorem dX7_bag_56 : decode cX7_bag 56 = .ok (.goto 4, 3) := by decide +kernel
theorem dX7_bag_59 : decode cX7_bag 59 = .ok (.iconst (-1), 1) := by decide +kernel
theorem dX7_bag_60 : decode cX7_bag 60 = .ok (.ireturn, 1) := by decide +kernel
theorem dX7_gets_0 : decode cX7_gets 0 = .ok (.iload_n 1, 1) := by decide +kernel
theorem dX7_gets_1 : decode cX7_gets 1 = .ok (.aload_n 0, 1) := by decide +kernel
theorem dX7_gets_2 : decode cX7_gets 2 = .ok (.getfield 21, 3) := by decide +kernel
theorem dX7_gets_5 : decode cX7_gets 5 = .ok (.getfield 92, 3) := by decide +kernel
theorem dX7_gets_8 : decode cX7_gets 8 = .ok (.invokestatic 70, 3) := by decide +kernel
theorem dX7_gets_11 : decode cX7_gets 11 = .ok (.ifCond .eq 6, 3) := by decide +kernel
theorem dX7_gets_14 : decode cX7_gets 14 = .ok (.bipush (-2), 2) := by decide +kernel
theorem dX7_gets_16 : decode cX7_gets 16 = .ok (.ireturn, 1) := by decide +kernel
theorem dX7_gets_17 : decode cX7_gets 17 = .ok (.iconst 0, 1) := by decide +kernel
theorem dX7_gets_18 : decode cX7_gets 18 = .ok (.istore_n 2, 1) := by decide +kernel
theorem dX7_gets_19 : decode cX7_gets 19 = .ok (.iload_n 2, 1) := by decide +kernel
theorem dX7_gets_20 : decode cX7_gets 20 = .ok (.bipush 10, 2) := by decide +kernel
theorem dX7_gets_22 : decode cX7_gets 22 = .ok (.if_icmp .ge 27, 3) := by decide +kernel
theorem dX7_gets_25 : decode cX7_gets 25 = .ok (.aload_n 0, 1) := by decide +kernel
theorem dX7_gets_26 : decode cX7_gets 26 = .ok (.getfield 30, 3) := by decide +kernel
theorem dX7_gets_29 : decode cX7_gets 29 = .ok (.iload_n 2, 1) := by decide +kernel
theorem dX7_gets_30 : decode cX7_gets 30 = .ok (.invokevirtual 137, 3) := by decide +kernel
theorem dX7_gets_33 : decode cX7_gets 33 = .ok (.iload_n 1, 1) := by decide +kernel
theorem dX7_gets_34 : decode cX7_gets 34 = .ok (.ishr, 1) := by decide +kernel
theorem dX7_gets_35 : decode cX7_gets 35 = .ok (.iconst 1, 1) := by decide +kernel
theorem dX7_gets_36 : decode cX7_gets 36 = .ok (.iand, 1) := by decide +kernel
theorem dX7_gets_37 : decode cX7_gets 37 = .ok (.iconst 1, 1) := by decide +kernel
theorem dX7_gets_38 : decode cX7_gets 38 = .ok (.if_icmp .ne 5, 3) := by decide +kernel
theorem dX7_gets_41 : decode cX7_gets 41 = .ok (.iload_n 2, 1) := by decide +kernel
theorem dX7_gets_42 : decode cX7_gets 42 = .ok (.ireturn, 1) := by decide +kernel
theorem dX7_gets_43 : decode cX7_gets 43 = .ok (.iinc 2 1, 3) := by decide +kernel
theorem dX7_gets_46 : decode cX7_gets 46 = .ok (.goto (-27), 3) := by decide +kernel
theorem dX7_gets_49 : decode cX7_gets 49 = .ok (.iconst (-1), 1) := by decide +kernel
theorem dX7_gets_50 : decode cX7_gets 50 = .ok (.ireturn, 1) := by decide +kernel
theorem dX7_first_0 : decode cX7_first 0 = .ok (.iload_n 1, 1) := by decide +kernel
theorem dX7_first_1 : decode cX7_first 1 = .ok (.tableswitch 51 0 2 #[27, 35, 43], 27) := by decide +kernel
theorem dX7_first_28 : decode cX7_first 28 = .ok (.aload_n 0, 1) := by decide +kernel
theorem dX7_first_29 : decode cX7_first 29 = .ok (.getfield 30, 3) := by decide +kernel
theorem dX7_first_32 : decode cX7_first 32 = .ok (.getfield 140, 3) := by decide +kernel
theorem dX7_first_35 : decode cX7_first 35 = .ok (.ireturn, 1) := by decide +kernel
theorem dX7_first_36 : decode cX7_first 36 = .ok (.aload_n 0, 1) := by decide +kernel
theorem dX7_first_37 : decode cX7_first 37 = .ok (.getfield 30, 3) := by decide +kernel
theorem dX7_first_40 : decode cX7_first 40 = .ok (.getfield 143, 3) := by decide +kernel
theorem dX7_first_43 : decode cX7_first 43 = .ok (.ireturn, 1) := by decide +kernel
theorem dX7_first_44 : decode cX7_first 44 = .ok (.aload_n 0, 1) := by decide +kernel
theorem dX7_first_45 : decode cX7_first 45 = .ok (.getfield 30, 3) := by decide +kernel
theorem dX7_first_48 : decode cX7_first 48 = .ok (.getfield 146, 3) := by decide +kernel
theorem dX7_first_51 : decode cX7_first 51 = .ok (.ireturn, 1) := by decide +kernel
theorem dX7_first_52 : decode cX7_first 52 = .ok (.bipush (-2), 2) := by decide +kernel
theorem dX7_first_54 : decode cX7_first 54 = .ok (.ireturn, 1) := by decide +kernel
theorem dX7_still_0 : decode cX7_still 0 = .ok (.aload_n 0, 1) := by decide +kernel
theorem dX7_still_1 : decode cX7_still 1 = .ok (.getfield 30, 3) := by decide +kernel
theorem dX7_still_4 : decode cX7_still 4 = .ok (.getfield 149, 3) := by decide +kernel
theorem dX7_still_7 : decode cX7_still 7 = .ok (.ireturn, 1) := by decide +kernel
theorem dX7_served_0 : decode cX7_served 0 = .ok (.iload_n 1, 1) := by decide +kernel
theorem dX7_served_1 : decode cX7_served 1 = .ok (.bipush 10, 2) := by decide +kernel
theorem dX7_served_3 : decode cX7_served 3 = .ok (.invokestatic 70, 3) := by decide +kernel
theorem dX7_served_6 : decode cX7_served 6 = .ok (.ifCond .eq 8, 3) := by decide +kernel
theorem dX7_served_9 : decode cX7_served 9 = .ok (.bipush (-2), 2) := by decide +kernel
theorem dX7_served_11 : decode cX7_served 11 = .ok (.goto 11, 3) := by decide +kernel
theorem dX7_served_14 : decode cX7_served 14 = .ok (.aload_n 0, 1) := by decide +kernel
theorem dX7_served_15 : decode cX7_served 15 = .ok (.getfield 30, 3) := by decide +kernel
theorem dX7_served_18 : decode cX7_served 18 = .ok (.iload_n 1, 1) := by decide +kernel
theorem dX7_served_19 : decode cX7_served 19 = .ok (.invokevirtual 137, 3) := by decide +kernel
theorem dX7_served_22 : decode cX7_served 22 = .ok (.ireturn, 1) := by decide +kernel
theorem dX7_rings_0 : decode cX7_rings 0 = .ok (.iload_n 1, 1) := by decide +kernel
theorem dX7_rings_1 : decode cX7_rings 1 = .ok (.iconst 2, 1) := by decide +kernel
theorem dX7_rings_2 : decode cX7_rings 2 = .ok (.invokestatic 70, 3) := by decide +kernel
theorem dX7_rings_5 : decode cX7_rings 5 = .ok (.ifCond .eq 6, 3) := by decide +kernel
theorem dX7_rings_8 : decode cX7_rings 8 = .ok (.bipush (-2), 2) := by decide +kernel
theorem dX7_rings_10 : decode cX7_rings 10 = .ok (.ireturn, 1) := by decide +kernel
theorem dX7_rings_11 : decode cX7_rings 11 = .ok (.iconst 0, 1) := by decide +kernel
theorem dX7_rings_12 : decode cX7_rings 12 = .ok (.istore_n 2, 1) := by decide +kernel
theorem dX7_rings_13 : decode cX7_rings 13 = .ok (.iconst (-1), 1) := by decide +kernel
theorem dX7_rings_14 : decode cX7_rings 14 = .ok (.istore_n 3, 1) := by decide +kernel
theorem dX7_rings_15 : decode cX7_rings 15 = .ok (.iconst 0, 1) := by decide +kernel
theorem dX7_rings_16 : decode cX7_rings 16 = .ok (.istore 4, 2) := by decide +kernel
theorem dX7_rings_18 : decode cX7_rings 18 = .ok (.iload 4, 2) := by decide +kernel
theorem dX7_rings_20 : decode cX7_rings 20 = .ok (.aload_n 0, 1) := by decide +kernel
theorem dX7_rings_21 : decode cX7_rings 21 = .ok (.getfield 21, 3) := by decide +kernel
theorem dX7_rings_24 : decode cX7_rings 24 = .ok (.getfield 92, 3) := by decide +kernel
theorem dX7_rings_27 : decode cX7_rings 27 = .ok (.if_icmp .ge 116, 3) := by decide +kernel
theorem dX7_rings_30 : decode cX7_rings 30 = .ok (.iload 4, 2) := by decide +kernel
theorem dX7_rings_32 : decode cX7_rings 32 = .ok (.iconst 1, 1) := by decide +kernel
theorem dX7_rings_33 : decode cX7_rings 33 = .ok (.iadd, 1) := by decide +kernel
theorem dX7_rings_34 : decode cX7_rings 34 = .ok (.istore 5, 2) := by decide +kernel
theorem dX7_rings_36 : decode cX7_rings 36 = .ok (.iload 5, 2) := by decide +kernel
theorem dX7_rings_38 : decode cX7_rings 38 = .ok (.aload_n 0, 1) := by decide +kernel
theorem dX7_rings_39 : decode cX7_rings 39 = .ok (.getfield 21, 3) := by decide +kernel
theorem dX7_rings_42 : decode cX7_rings 42 = .ok (.getfield 92, 3) := by decide +kernel
theorem dX7_rings_45 : decode cX7_rings 45 = .ok (.if_icmp .ge 92, 3) := by decide +kernel
theorem dX7_rings_48 : decode cX7_rings 48 = .ok (.iload 5, 2) := by decide +kernel
theorem dX7_rings_50 : decode cX7_rings 50 = .ok (.iconst 1, 1) := by decide +kernel
theorem dX7_rings_51 : decode cX7_rings 51 = .ok (.iadd, 1) := by decide +kernel
theorem dX7_rings_52 : decode cX7_rings 52 = .ok (.istore 6, 2) := by decide +kernel
theorem dX7_rings_54 : decode cX7_rings 54 = .ok (.iload 6, 2) := by decide +kernel
theorem dX7_rings_56 : decode cX7_rings 56 = .ok (.aload_n 0, 1) := by decide +kernel
theorem dX7_rings_57 : decode cX7_rings 57 = .ok (.getfield 21, 3) := by decide +kernel
theorem dX7_rings_60 : decode cX7_rings 60 = .ok (.getfield 92, 3) := by decide +kernel
theorem dX7_rings_63 : decode cX7_rings 63 = .ok (.if_icmp .ge 68, 3) := by decide +kernel
theorem dX7_rings_66 : decode cX7_rings 66 = .ok (.aload_n 0, 1) := by decide +kernel
theorem dX7_rings_67 : decode cX7_rings 67 = .ok (.getfield 21, 3) := by decide +kernel
theorem dX7_rings_70 : decode cX7_rings 70 = .ok (.iload 4, 2) := by decide +kernel
theorem dX7_rings_72 : decode cX7_rings 72 = .ok (.iload 5, 2) := by decide +kernel
theorem dX7_rings_74 : decode cX7_rings 74 = .ok (.iload 6, 2) := by decide +kernel
theorem dX7_rings_76 : decode cX7_rings 76 = .ok (.invokevirtual 152, 3) := by decide +kernel
theorem dX7_rings_79 : decode cX7_rings 79 = .ok (.ifCond .ne 19, 3) := by decide +kernel
theorem dX7_rings_82 : decode cX7_rings 82 = .ok (.aload_n 0, 1) := by decide +kernel
theorem dX7_rings_83 : decode cX7_rings 83 = .ok (.getfield 21, 3) := by decide +kernel
theorem dX7_rings_86 : decode cX7_rings 86 = .ok (.iload 4, 2) := by decide +kernel
theorem dX7_rings_88 : decode cX7_rings 88 = .ok (.iload 6, 2) := by decide +kernel
theorem dX7_rings_90 : decode cX7_rings 90 = .ok (.iload 5, 2) := by decide +kernel
theorem dX7_rings_92 : decode cX7_rings 92 = .ok (.invokevirtual 152, 3) := by decide +kernel
theorem dX7_rings_95 : decode cX7_rings 95 = .ok (.ifCond .eq 30, 3) := by decide +kernel
theorem dX7_rings_98 : decode cX7_rings 98 = .ok (.iinc 2 1, 3) := by decide +kernel
theorem dX7_rings_101 : decode cX7_rings 101 = .ok (.iload_n 3, 1) := by decide +kernel
theorem dX7_rings_102 : decode cX7_rings 102 = .ok (.iconst (-1), 1) := by decide +kernel
theorem dX7_rings_103 : decode cX7_rings 103 = .ok (.if_icmp .ne 20, 3) := by decide +kernel
theorem dX7_rings_106 : decode cX7_rings 106 = .ok (.bipush 64, 2) := by decide +kernel
theorem dX7_rings_108 : decode cX7_rings 108 = .ok (.iload 4, 2) := by decide +kernel
theorem dX7_rings_110 : decode cX7_rings 110 = .ok (.imul, 1) := by decide +kernel
theorem dX7_rings_111 : decode cX7_rings 111 = .ok (.bipush 8, 2) := by decide +kernel
theorem dX7_rings_113 : decode cX7_rings 113 = .ok (.iload 5, 2) := by decide +kernel
theorem dX7_rings_115 : decode cX7_rings 115 = .ok (.imul, 1) := by decide +kernel
theorem dX7_rings_116 : decode cX7_rings 116 = .ok (.iadd, 1) := by decide +kernel
theorem dX7_rings_117 : decode cX7_rings 117 = .ok (.iload 6, 2) := by decide +kernel
theorem dX7_rings_119 : decode cX7_rings 119 = .ok (.iadd, 1) := by decide +kernel
theorem dX7_rings_120 : decode cX7_rings 120 = .ok (.goto 4, 3) := by decide +kernel
theorem dX7_rings_123 : decode cX7_rings 123 = .ok (.iload_n 3, 1) := by decide +kernel
theorem dX7_rings_124 : decode cX7_rings 124 = .ok (.istore_n 3, 1) := by decide +kernel
theorem dX7_rings_125 : decode cX7_rings 125 = .ok (.iinc 6 1, 3) := by decide +kernel
theorem dX7_rings_128 : decode cX7_rings 128 = .ok (.goto (-74), 3) := by decide +kernel
theorem dX7_rings_131 : decode cX7_rings 131 = .ok (.iinc 5 1, 3) := by decide +kernel
theorem dX7_rings_134 : decode cX7_rings 134 = .ok (.goto (-98), 3) := by decide +kernel
theorem dX7_rings_137 : decode cX7_rings 137 = .ok (.iinc 4 1, 3) := by decide +kernel
theorem dX7_rings_140 : decode cX7_rings 140 = .ok (.goto (-122), 3) := by decide +kernel
theorem dX7_rings_143 : decode cX7_rings 143 = .ok (.iload_n 1, 1) := by decide +kernel
theorem dX7_rings_144 : decode cX7_rings 144 = .ok (.ifCond .ne 7, 3) := by decide +kernel
theorem dX7_rings_147 : decode cX7_rings 147 = .ok (.iload_n 2, 1) := by decide +kernel
theorem dX7_rings_148 : decode cX7_rings 148 = .ok (.goto 4, 3) := by decide +kernel
theorem dX7_rings_151 : decode cX7_rings 151 = .ok (.iload_n 3, 1) := by decide +kernel
theorem dX7_rings_152 : decode cX7_rings 152 = .ok (.ireturn, 1) := by decide +kernel
theorem dX7_open_0 : decode cX7_open 0 = .ok (.iload_n 1, 1) := by decide +kernel
theorem dX7_open_1 : decode cX7_open 1 = .ok (.aload_n 0, 1) := by decide +kernel
theorem dX7_open_2 : decode cX7_open 2 = .ok (.getfield 21, 3) := by decide +kernel
theorem dX7_open_5 : decode cX7_open 5 = .ok (.getfield 92, 3) := by decide +kernel
theorem dX7_open_8 : decode cX7_open 8 = .ok (.invokestatic 70, 3) := by decide +kernel
theorem dX7_open_11 : decode cX7_open 11 = .ok (.ifCond .ne 11, 3) := by decide +kernel
theorem dX7_open_14 : decode cX7_open 14 = .ok (.iload_n 2, 1) := by decide +kernel
theorem dX7_open_15 : decode cX7_open 15 = .ok (.iconst 2, 1) := by decide +kernel
theorem dX7_open_16 : decode cX7_open 16 = .ok (.invokestatic 70, 3) := by decide +kernel
theorem dX7_open_19 : decode cX7_open 19 = .ok (.ifCond .eq 6, 3) := by decide +kernel
theorem dX7_open_22 : decode cX7_open 22 = .ok (.bipush (-2), 2) := by decide +kernel
theorem dX7_open_24 : decode cX7_open 24 = .ok (.ireturn, 1) := by decide +kernel
theorem dX7_open_25 : decode cX7_open 25 = .ok (.iconst 0, 1) := by decide +kernel
theorem dX7_open_26 : decode cX7_open 26 = .ok (.istore_n 3, 1) := by decide +kernel
theorem dX7_open_27 : decode cX7_open 27 = .ok (.iload_n 3, 1) := by decide +kernel
theorem dX7_open_28 : decode cX7_open 28 = .ok (.iconst 3, 1) := by decide +kernel
theorem dX7_open_29 : decode cX7_open 29 = .ok (.if_icmp .gt 69, 3) := by decide +kernel
theorem dX7_open_32 : decode cX7_open 32 = .ok (.iconst 0, 1) := by decide +kernel
theorem dX7_open_33 : decode cX7_open 33 = .ok (.istore 4, 2) := by decide +kernel
theorem dX7_open_35 : decode cX7_open 35 = .ok (.iload 4, 2) := by decide +kernel
theorem dX7_open_37 : decode cX7_open 37 = .ok (.sipush 1024, 3) := by decide +kernel
theorem dX7_open_40 : decode cX7_open 40 = .ok (.if_icmp .ge 52, 3) := by decide +kernel
theorem dX7_open_43 : decode cX7_open 43 = .ok (.iload 4, 2) := by decide +kernel
theorem dX7_open_45 : decode cX7_open 45 = .ok (.invokestatic 156, 3) := by decide +kernel
theorem dX7_open_48 : decode cX7_open 48 = .ok (.iload_n 3, 1) := by decide +kernel
theorem dX7_open_49 : decode cX7_open 49 = .ok (.if_icmp .ne 37, 3) := by decide +kernel
theorem dX7_open_52 : decode cX7_open 52 = .ok (.aload_n 0, 1) := by decide +kernel
theorem dX7_open_53 : decode cX7_open 53 = .ok (.getfield 40, 3) := by decide +kernel
theorem dX7_open_56 : decode cX7_open 56 = .ok (.iload 4, 2) := by decide +kernel
theorem dX7_open_58 : decode cX7_open 58 = .ok (.bipush 9, 2) := by decide +kernel
theorem dX7_open_60 : decode cX7_open 60 = .ok (.aload_n 0, 1) := by decide +kernel
theorem dX7_open_61 : decode cX7_open 61 = .ok (.getfield 34, 3) := by decide +kernel
theorem dX7_open_64 : decode cX7_open 64 = .ok (.invokevirtual 161, 3) := by decide +kernel
theorem dX7_open_67 : decode cX7_open 67 = .ok (.iload_n 1, 1) := by decide +kernel
theorem dX7_open_68 : decode cX7_open 68 = .ok (.ishr, 1) := by decide +kernel
theorem dX7_open_69 : decode cX7_open 69 = .ok (.iconst 1, 1) := by decide +kernel
theorem dX7_open_70 : decode cX7_open 70 = .ok (.iand, 1) := by decide +kernel
theorem dX7_open_71 : decode cX7_open 71 = .ok (.iconst 1, 1) := by decide +kernel
theorem dX7_open_72 : decode cX7_open 72 = .ok (.if_icmp .ne 14, 3) := by decide +kernel
theorem dX7_open_75 : decode cX7_open 75 = .ok (.iload_n 2, 1) := by decide +kernel
theorem dX7_open_76 : decode cX7_open 76 = .ok (.ifCond .ne 7, 3) := by decide +kernel
theorem dX7_open_79 : decode cX7_open 79 = .ok (.iload_n 3, 1) := by decide +kernel
theorem dX7_open_80 : decode cX7_open 80 = .ok (.goto 5, 3) := by decide +kernel
theorem dX7_open_83 : decode cX7_open 83 = .ok (.iload 4, 2) := by decide +kernel
theorem dX7_open_85 : decode cX7_open 85 = .ok (.ireturn, 1) := by decide +kernel
theorem dX7_open_86 : decode cX7_open 86 = .ok (.iinc 4 1, 3) := by decide +kernel
theorem dX7_open_89 : decode cX7_open 89 = .ok (.goto (-54), 3) := by decide +kernel
theorem dX7_open_92 : decode cX7_open 92 = .ok (.iinc 3 1, 3) := by decide +kernel
theorem dX7_open_95 : decode cX7_open 95 = .ok (.goto (-68), 3) := by decide +kernel
theorem dX7_open_98 : decode cX7_open 98 = .ok (.iconst (-1), 1) := by decide +kernel
theorem dX7_open_99 : decode cX7_open 99 = .ok (.ireturn, 1) := by decide +kernel
theorem dX7_least_0 : decode cX7_least 0 = .ok (.iload_n 1, 1) := by decide +kernel
theorem dX7_least_1 : decode cX7_least 1 = .ok (.iconst 2, 1) := by decide +kernel
theorem dX7_least_2 : decode cX7_least 2 = .ok (.invokestatic 70, 3) := by decide +kernel
theorem dX7_least_5 : decode cX7_least 5 = .ok (.ifCond .eq 6, 3) := by decide +kernel
theorem dX7_least_8 : decode cX7_least 8 = .ok (.bipush (-2), 2) := by decide +kernel
theorem dX7_least_10 : decode cX7_least 10 = .ok (.ireturn, 1) := by decide +kernel
theorem dX7_least_11 : decode cX7_least 11 = .ok (.iconst 0, 1) := by decide +kernel
theorem dX7_least_12 : decode cX7_least 12 = .ok (.istore_n 2, 1) := by decide +kernel
theorem dX7_least_13 : decode cX7_least 13 = .ok (.iconst (-1), 1) := by decide +kernel
theorem dX7_least_14 : decode cX7_least 14 = .ok (.istore_n 3, 1) := by decide +kernel
theorem dX7_least_15 : decode cX7_least 15 = .ok (.iconst 0, 1) := by decide +kernel
theorem dX7_least_16 : decode cX7_least 16 = .ok (.istore 4, 2) := by decide +kernel
theorem dX7_least_18 : decode cX7_least 18 = .ok (.iload 4, 2) := by decide +kernel
theorem dX7_least_20 : decode cX7_least 20 = .ok (.bipush 9, 2) := by decide +kernel
theorem dX7_least_22 : decode cX7_least 22 = .ok (.if_icmp .gt 36, 3) := by decide +kernel
theorem dX7_least_25 : decode cX7_least 25 = .ok (.aload_n 0, 1) := by decide +kernel
theorem dX7_least_26 : decode cX7_least 26 = .ok (.iload 4, 2) := by decide +kernel
theorem dX7_least_28 : decode cX7_least 28 = .ok (.invokevirtual 165, 3) := by decide +kernel
theorem dX7_least_31 : decode cX7_least 31 = .ok (.aload_n 0, 1) := by decide +kernel
theorem dX7_least_32 : decode cX7_least 32 = .ok (.getfield 34, 3) := by decide +kernel
theorem dX7_least_35 : decode cX7_least 35 = .ok (.invokevirtual 168, 3) := by decide +kernel
theorem dX7_least_38 : decode cX7_least 38 = .ok (.istore 5, 2) := by decide +kernel
theorem dX7_least_40 : decode cX7_least 40 = .ok (.iload 5, 2) := by decide +kernel
theorem dX7_least_42 : decode cX7_least 42 = .ok (.iload_n 3, 1) := by decide +kernel
theorem dX7_least_43 : decode cX7_least 43 = .ok (.if_icmp .le 9, 3) := by decide +kernel
theorem dX7_least_46 : decode cX7_least 46 = .ok (.iload 5, 2) := by decide +kernel
theorem dX7_least_48 : decode cX7_least 48 = .ok (.istore_n 3, 1) := by decide +kernel
theorem dX7_least_49 : decode cX7_least 49 = .ok (.iload 4, 2) := by decide +kernel
theorem dX7_least_51 : decode cX7_least 51 = .ok (.istore_n 2, 1) := by decide +kernel
theorem dX7_least_52 : decode cX7_least 52 = .ok (.iinc 4 1, 3) := by decide +kernel
theorem dX7_least_55 : decode cX7_least 55 = .ok (.goto (-37), 3) := by decide +kernel
theorem dX7_least_58 : decode cX7_least 58 = .ok (.iload_n 1, 1) := by decide +kernel
theorem dX7_least_59 : decode cX7_least 59 = .ok (.ifCond .ne 7, 3) := by decide +kernel
theorem dX7_least_62 : decode cX7_least 62 = .ok (.iload_n 2, 1) := by decide +kernel
theorem dX7_least_63 : decode cX7_least 63 = .ok (.goto 4, 3) := by decide +kernel
theorem dX7_least_66 : decode cX7_least 66 = .ok (.iload_n 3, 1) := by decide +kernel
theorem dX7_least_67 : decode cX7_least 67 = .ok (.ireturn, 1) := by decide +kernel
theorem dX7_top_0 : decode cX7_top 0 = .ok (.iload_n 1, 1) := by decide +kernel
theorem dX7_top_1 : decode cX7_top 1 = .ok (.iconst 2, 1) := by decide +kernel
theorem dX7_top_2 : decode cX7_top 2 = .ok (.invokestatic 70, 3) := by decide +kernel
theorem dX7_top_5 : decode cX7_top 5 = .ok (.ifCond .eq 6, 3) := by decide +kernel
theorem dX7_top_8 : decode cX7_top 8 = .ok (.bipush (-2), 2) := by decide +kernel
theorem dX7_top_10 : decode cX7_top 10 = .ok (.ireturn, 1) := by decide +kernel
theorem dX7_top_11 : decode cX7_top 11 = .ok (.iconst 0, 1) := by decide +kernel
theorem dX7_top_12 : decode cX7_top 12 = .ok (.istore_n 2, 1) := by decide +kernel
theorem dX7_top_13 : decode cX7_top 13 = .ok (.iconst (-1), 1) := by decide +kernel
theorem dX7_top_14 : decode cX7_top 14 = .ok (.istore_n 3, 1) := by decide +kernel
theorem dX7_top_15 : decode cX7_top 15 = .ok (.iconst 0, 1) := by decide +kernel
theorem dX7_top_16 : decode cX7_top 16 = .ok (.istore 4, 2) := by decide +kernel
theorem dX7_top_18 : decode cX7_top 18 = .ok (.iload 4, 2) := by decide +kernel
theorem dX7_top_20 : decode cX7_top 20 = .ok (.bipush 8, 2) := by decide +kernel
theorem dX7_top_22 : decode cX7_top 22 = .ok (.if_icmp .ge 56, 3) := by decide +kernel
theorem dX7_top_25 : decode cX7_top 25 = .ok (.aload_n 0, 1) := by decide +kernel
theorem dX7_top_26 : decode cX7_top 26 = .ok (.getfield 34, 3) := by decide +kernel
theorem dX7_top_29 : decode cX7_top 29 = .ok (.invokevirtual 171, 3) := by decide +kernel
theorem dX7_top_32 : decode cX7_top 32 = .ok (.aload_n 0, 1) := by decide +kernel
theorem dX7_top_33 : decode cX7_top 33 = .ok (.getfield 34, 3) := by decide +kernel
theorem dX7_top_36 : decode cX7_top 36 = .ok (.getfield 174, 3) := by decide +kernel
theorem dX7_top_39 : decode cX7_top 39 = .ok (.iload 4, 2) := by decide +kernel
theorem dX7_top_41 : decode cX7_top 41 = .ok (.invokevirtual 178, 3) := by decide +kernel
theorem dX7_top_44 : decode cX7_top 44 = .ok (.aload_n 0, 1) := by decide +kernel
theorem dX7_top_45 : decode cX7_top 45 = .ok (.getfield 34, 3) := by decide +kernel
theorem dX7_top_48 : decode cX7_top 48 = .ok (.invokevirtual 181, 3) := by decide +kernel
theorem dX7_top_51 : decode cX7_top 51 = .ok (.aload_n 0, 1) := by decide +kernel
theorem dX7_top_52 : decode cX7_top 52 = .ok (.getfield 34, 3) := by decide +kernel
theorem dX7_top_55 : decode cX7_top 55 = .ok (.invokevirtual 168, 3) := by decide +kernel
theorem dX7_top_58 : decode cX7_top 58 = .ok (.istore 5, 2) := by decide +kernel
theorem dX7_top_60 : decode cX7_top 60 = .ok (.iload 5, 2) := by decide +kernel
theorem dX7_top_62 : decode cX7_top 62 = .ok (.iload_n 3, 1) := by decide +kernel
theorem dX7_top_63 : decode cX7_top 63 = .ok (.if_icmp .le 9, 3) := by decide +kernel
theorem dX7_top_66 : decode cX7_top 66 = .ok (.iload 5, 2) := by decide +kernel
theorem dX7_top_68 : decode cX7_top 68 = .ok (.istore_n 3, 1) := by decide +kernel
theorem dX7_top_69 : decode cX7_top 69 = .ok (.iload 4, 2) := by decide +kernel
theorem dX7_top_71 : decode cX7_top 71 = .ok (.istore_n 2, 1) := by decide +kernel
theorem dX7_top_72 : decode cX7_top 72 = .ok (.iinc 4 1, 3) := by decide +kernel
theorem dX7_top_75 : decode cX7_top 75 = .ok (.goto (-57), 3) := by decide +kernel
theorem dX7_top_78 : decode cX7_top 78 = .ok (.iload_n 1, 1) := by decide +kernel
theorem dX7_top_79 : decode cX7_top 79 = .ok (.ifCond .ne 7, 3) := by decide +kernel
theorem dX7_top_82 : decode cX7_top 82 = .ok (.iload_n 2, 1) := by decide +kernel
theorem dX7_top_83 : decode cX7_top 83 = .ok (.goto 4, 3) := by decide +kernel
theorem dX7_top_86 : decode cX7_top 86 = .ok (.iload_n 3, 1) := by decide +kernel
theorem dX7_top_87 : decode cX7_top 87 = .ok (.ireturn, 1) := by decide +kernel
theorem dX7_seen_0 : decode cX7_seen 0 = .ok (.iload_n 1, 1) := by decide +kernel
theorem dX7_seen_1 : decode cX7_seen 1 = .ok (.iload_n 2, 1) := by decide +kernel
theorem dX7_seen_2 : decode cX7_seen 2 = .ok (.iload_n 3, 1) := by decide +kernel
theorem dX7_seen_3 : decode cX7_seen 3 = .ok (.invokestatic 184, 3) := by decide +kernel
theorem dX7_seen_6 : decode cX7_seen 6 = .ok (.ifCond .ne 6, 3) := by decide +kernel
theorem dX7_seen_9 : decode cX7_seen 9 = .ok (.bipush (-2), 2) := by decide +kernel
theorem dX7_seen_11 : decode cX7_seen 11 = .ok (.ireturn, 1) := by decide +kernel
theorem dX7_seen_12 : decode cX7_seen 12 = .ok (.aload_n 0, 1) := by decide +kernel
theorem dX7_seen_13 : decode cX7_seen 13 = .ok (.getfield 47, 3) := by decide +kernel
theorem dX7_seen_16 : decode cX7_seen 16 = .ok (.invokevirtual 187, 3) := by decide +kernel
theorem dX7_seen_19 : decode cX7_seen 19 = .ok (.ifCond .eq 6, 3) := by decide +kernel
theorem dX7_seen_22 : decode cX7_seen 22 = .ok (.bipush (-4), 2) := by decide +kernel
theorem dX7_seen_24 : decode cX7_seen 24 = .ok (.ireturn, 1) := by decide +kernel
theorem dX7_seen_25 : decode cX7_seen 25 = .ok (.aload_n 0, 1) := by decide +kernel
theorem dX7_seen_26 : decode cX7_seen 26 = .ok (.getfield 47, 3) := by decide +kernel
theorem dX7_seen_29 : decode cX7_seen 29 = .ok (.iload_n 1, 1) := by decide +kernel
theorem dX7_seen_30 : decode cX7_seen 30 = .ok (.iload_n 2, 1) := by decide +kernel
theorem dX7_seen_31 : decode cX7_seen 31 = .ok (.iload_n 3, 1) := by decide +kernel
theorem dX7_seen_32 : decode cX7_seen 32 = .ok (.invokevirtual 188, 3) := by decide +kernel
theorem dX7_seen_35 : decode cX7_seen 35 = .ok (.aload_n 0, 1) := by decide +kernel
theorem dX7_seen_36 : decode cX7_seen 36 = .ok (.getfield 47, 3) := by decide +kernel
theorem dX7_seen_39 : decode cX7_seen 39 = .ok (.getfield 191, 3) := by decide +kernel
theorem dX7_seen_42 : decode cX7_seen 42 = .ok (.ireturn, 1) := by decide +kernel
theorem dX7_forget_0 : decode cX7_forget 0 = .ok (.aload_n 0, 1) := by decide +kernel
theorem dX7_forget_1 : decode cX7_forget 1 = .ok (.getfield 47, 3) := by decide +kernel
theorem dX7_forget_4 : decode cX7_forget 4 = .ok (.getfield 191, 3) := by decide +kernel
theorem dX7_forget_7 : decode cX7_forget 7 = .ok (.istore_n 1, 1) := by decide +kernel
theorem dX7_forget_8 : decode cX7_forget 8 = .ok (.aload_n 0, 1) := by decide +kernel
theorem dX7_forget_9 : decode cX7_forget 9 = .ok (.getfield 47, 3) := by decide +kernel
theorem dX7_forget_12 : decode cX7_forget 12 = .ok (.iconst 0, 1) := by decide +kernel
theorem dX7_forget_13 : decode cX7_forget 13 = .ok (.putfield 191, 3) := by decide +kernel
theorem dX7_forget_16 : decode cX7_forget 16 = .ok (.iload_n 1, 1) := by decide +kernel
theorem dX7_forget_17 : decode cX7_forget 17 = .ok (.ireturn, 1) := by decide +kernel
theorem dX7_read_0 : decode cX7_read 0 = .ok (.iload_n 1, 1) := by decide +kernel
theorem dX7_read_1 : decode cX7_read 1 = .ok (.iconst 4, 1) := by decide +kernel
theorem dX7_read_2 : decode cX7_read 2 = .ok (.invokestatic 70, 3) := by decide +kernel
theorem dX7_read_5 : decode cX7_read 5 = .ok (.ifCond .eq 6, 3) := by decide +kernel
theorem dX7_read_8 : decode cX7_read 8 = .ok (.bipush (-2), 2) := by decide +kernel
theorem dX7_read_10 : decode cX7_read 10 = .ok (.ireturn, 1) := by decide +kernel
theorem dX7_read_11 : decode cX7_read 11 = .ok (.aload_n 0, 1) := by decide +kernel
theorem dX7_read_12 : decode cX7_read 12 = .ok (.getfield 54, 3) := by decide +kernel
theorem dX7_read_15 : decode cX7_read 15 = .ok (.iload_n 1, 1) := by decide +kernel
theorem dX7_read_16 : decode cX7_read 16 = .ok (.aaload, 1) := by decide +kernel
theorem dX7_read_17 : decode cX7_read 17 = .ok (.invokevirtual 192, 3) := by decide +kernel
theorem dX7_read_20 : decode cX7_read 20 = .ok (.ifCond .eq 9, 3) := by decide +kernel
theorem dX7_read_23 : decode cX7_read 23 = .ok (.aload_n 0, 1) := by decide +kernel
theorem dX7_read_24 : decode cX7_read 24 = .ok (.iconst 1, 1) := by decide +kernel
theorem dX7_read_25 : decode cX7_read 25 = .ok (.invokevirtual 195, 3) := by decide +kernel
theorem dX7_read_28 : decode cX7_read 28 = .ok (.ireturn, 1) := by decide +kernel
theorem dX7_read_29 : decode cX7_read 29 = .ok (.aload_n 0, 1) := by decide +kernel
theorem dX7_read_30 : decode cX7_read 30 = .ok (.getfield 54, 3) := by decide +kernel
theorem dX7_read_33 : decode cX7_read 33 = .ok (.iload_n 1, 1) := by decide +kernel
theorem dX7_read_34 : decode cX7_read 34 = .ok (.aaload, 1) := by decide +kernel
theorem dX7_read_35 : decode cX7_read 35 = .ok (.getfield 198, 3) := by decide +kernel
theorem dX7_read_38 : decode cX7_read 38 = .ok (.astore_n 2, 1) := by decide +kernel
theorem dX7_read_39 : decode cX7_read 39 = .ok (.iconst 0, 1) := by decide +kernel
theorem dX7_read_40 : decode cX7_read 40 = .ok (.istore_n 3, 1) := by decide +kernel
theorem dX7_read_41 : decode cX7_read 41 = .ok (.iconst 0, 1) := by decide +kernel
theorem dX7_read_42 : decode cX7_read 42 = .ok (.istore 4, 2) := by decide +kernel
theorem dX7_read_44 : decode cX7_read 44 = .ok (.iload 4, 2) := by decide +kernel
theorem dX7_read_46 : decode cX7_read 46 = .ok (.iconst 3, 1) := by decide +kernel
theorem dX7_read_47 : decode cX7_read 47 = .ok (.iadd, 1) := by decide +kernel
theorem dX7_read_48 : decode cX7_read 48 = .ok (.aload_n 0, 1) := by decide +kernel
theorem dX7_read_49 : decode cX7_read 49 = .ok (.getfield 54, 3) := by decide +kernel
theorem dX7_read_52 : decode cX7_read 52 = .ok (.iload_n 1, 1) := by decide +kernel
theorem dX7_read_53 : decode cX7_read 53 = .ok (.aaload, 1) := by decide +kernel
theorem dX7_read_54 : decode cX7_read 54 = .ok (.getfield 201, 3) := by decide +kernel
theorem dX7_read_57 : decode cX7_read 57 = .ok (.if_icmp .gt 70, 3) := by decide +kernel
theorem dX7_read_60 : decode cX7_read 60 = .ok (.aload_n 0, 1) := by decide +kernel
theorem dX7_read_61 : decode cX7_read 61 = .ok (.getfield 47, 3) := by decide +kernel
theorem dX7_read_64 : decode cX7_read 64 = .ok (.invokevirtual 187, 3) := by decide +kernel
theorem dX7_read_67 : decode cX7_read 67 = .ok (.ifCond .ne 60, 3) := by decide +kernel
theorem dX7_read_70 : decode cX7_read 70 = .ok (.aload_n 2, 1) := by decide +kernel
theorem dX7_read_71 : decode cX7_read 71 = .ok (.iload 4, 2) := by decide +kernel
theorem dX7_read_73 : decode cX7_read 73 = .ok (.iaload, 1) := by decide +kernel
theorem dX7_read_74 : decode cX7_read 74 = .ok (.aload_n 2, 1) := by decide +kernel
theorem dX7_read_75 : decode cX7_read 75 = .ok (.iload 4, 2) := by decide +kernel
theorem dX7_read_77 : decode cX7_read 77 = .ok (.iconst 1, 1) := by decide +kernel
theorem dX7_read_78 : decode cX7_read 78 = .ok (.iadd, 1) := by decide +kernel
theorem dX7_read_79 : decode cX7_read 79 = .ok (.iaload, 1) := by decide +kernel
theorem dX7_read_80 : decode cX7_read 80 = .ok (.aload_n 2, 1) := by decide +kernel
theorem dX7_read_81 : decode cX7_read 81 = .ok (.iload 4, 2) := by decide +kernel
theorem dX7_read_83 : decode cX7_read 83 = .ok (.iconst 2, 1) := by decide +kernel
theorem dX7_read_84 : decode cX7_read 84 = .ok (.iadd, 1) := by decide +kernel
theorem dX7_read_85 : decode cX7_read 85 = .ok (.iaload, 1) := by decide +kernel
theorem dX7_read_86 : decode cX7_read 86 = .ok (.invokestatic 184, 3) := by decide +kernel
theorem dX7_read_89 : decode cX7_read 89 = .ok (.ifCond .ne 6, 3) := by decide +kernel
theorem dX7_read_92 : decode cX7_read 92 = .ok (.goto 35, 3) := by decide +kernel
theorem dX7_read_95 : decode cX7_read 95 = .ok (.aload_n 0, 1) := by decide +kernel
theorem dX7_read_96 : decode cX7_read 96 = .ok (.getfield 47, 3) := by decide +kernel
theorem dX7_read_99 : decode cX7_read 99 = .ok (.aload_n 2, 1) := by decide +kernel
theorem dX7_read_100 : decode cX7_read 100 = .ok (.iload 4, 2) := by decide +kernel
theorem dX7_read_102 : decode cX7_read 102 = .ok (.iaload, 1) := by decide +kernel
theorem dX7_read_103 : decode cX7_read 103 = .ok (.aload_n 2, 1) := by decide +kernel
theorem dX7_read_104 : decode cX7_read 104 = .ok (.iload 4, 2) := by decide +kernel
theorem dX7_read_106 : decode cX7_read 106 = .ok (.iconst 1, 1) := by decide +kernel
theorem dX7_read_107 : decode cX7_read 107 = .ok (.iadd, 1) := by decide +kernel
theorem dX7_read_108 : decode cX7_read 108 = .ok (.iaload, 1) := by decide +kernel
theorem dX7_read_109 : decode cX7_read 109 = .ok (.aload_n 2, 1) := by decide +kernel
theorem dX7_read_110 : decode cX7_read 110 = .ok (.iload 4, 2) := by decide +kernel
theorem dX7_read_112 : decode cX7_read 112 = .ok (.iconst 2, 1) := by decide +kernel
theorem dX7_read_113 : decode cX7_read 113 = .ok (.iadd, 1) := by decide +kernel
theorem dX7_read_114 : decode cX7_read 114 = .ok (.iaload, 1) := by decide +kernel
theorem dX7_read_115 : decode cX7_read 115 = .ok (.invokevirtual 188, 3) := by decide +kernel
theorem dX7_read_118 : decode cX7_read 118 = .ok (.iinc 3 1, 3) := by decide +kernel
theorem dX7_read_121 : decode cX7_read 121 = .ok (.iinc 4 3, 3) := by decide +kernel
theorem dX7_read_124 : decode cX7_read 124 = .ok (.goto (-80), 3) := by decide +kernel
theorem dX7_read_127 : decode cX7_read 127 = .ok (.iload_n 3, 1) := by decide +kernel
theorem dX7_read_128 : decode cX7_read 128 = .ok (.ireturn, 1) := by decide +kernel
theorem dX7_had_0 : decode cX7_had 0 = .ok (.iload_n 1, 1) := by decide +kernel
theorem dX7_had_1 : decode cX7_had 1 = .ok (.aload_n 0, 1) := by decide +kernel
theorem dX7_had_2 : decode cX7_had 2 = .ok (.getfield 21, 3) := by decide +kernel
theorem dX7_had_5 : decode cX7_had 5 = .ok (.getfield 92, 3) := by decide +kernel
theorem dX7_had_8 : decode cX7_had 8 = .ok (.invokestatic 70, 3) := by decide +kernel
theorem dX7_had_11 : decode cX7_had 11 = .ok (.ifCond .eq 6, 3) := by decide +kernel
theorem dX7_had_14 : decode cX7_had 14 = .ok (.bipush (-2), 2) := by decide +kernel
theorem dX7_had_16 : decode cX7_had 16 = .ok (.ireturn, 1) := by decide +kernel
theorem dX7_had_17 : decode cX7_had 17 = .ok (.iconst 0, 1) := by decide +kernel
theorem dX7_had_18 : decode cX7_had 18 = .ok (.istore_n 2, 1) := by decide +kernel
theorem dX7_had_19 : decode cX7_had 19 = .ok (.iconst 0, 1) := by decide +kernel
theorem dX7_had_20 : decode cX7_had 20 = .ok (.istore_n 3, 1) := by decide +kernel
theorem dX7_had_21 : decode cX7_had 21 = .ok (.iload_n 3, 1) := by decide +kernel
theorem dX7_had_22 : decode cX7_had 22 = .ok (.bipush 8, 2) := by decide +kernel
theorem dX7_had_24 : decode cX7_had 24 = .ok (.if_icmp .ge 60, 3) := by decide +kernel
theorem dX7_had_27 : decode cX7_had 27 = .ok (.aload_n 0, 1) := by decide +kernel
theorem dX7_had_28 : decode cX7_had 28 = .ok (.getfield 34, 3) := by decide +kernel
theorem dX7_had_31 : decode cX7_had 31 = .ok (.invokevirtual 171, 3) := by decide +kernel
theorem dX7_had_34 : decode cX7_had 34 = .ok (.aload_n 0, 1) := by decide +kernel
theorem dX7_had_35 : decode cX7_had 35 = .ok (.getfield 34, 3) := by decide +kernel
theorem dX7_had_38 : decode cX7_had 38 = .ok (.getfield 202, 3) := by decide +kernel
theorem dX7_had_41 : decode cX7_had 41 = .ok (.iload_n 1, 1) := by decide +kernel
theorem dX7_had_42 : decode cX7_had 42 = .ok (.iload_n 3, 1) := by decide +kernel
theorem dX7_had_43 : decode cX7_had 43 = .ok (.iastore, 1) := by decide +kernel
theorem dX7_had_44 : decode cX7_had 44 = .ok (.aload_n 0, 1) := by decide +kernel
theorem dX7_had_45 : decode cX7_had 45 = .ok (.getfield 34, 3) := by decide +kernel
theorem dX7_had_48 : decode cX7_had 48 = .ok (.invokevirtual 181, 3) := by decide +kernel
theorem dX7_had_51 : decode cX7_had 51 = .ok (.aload_n 0, 1) := by decide +kernel
theorem dX7_had_52 : decode cX7_had 52 = .ok (.getfield 47, 3) := by decide +kernel
theorem dX7_had_55 : decode cX7_had 55 = .ok (.aload_n 0, 1) := by decide +kernel
theorem dX7_had_56 : decode cX7_had 56 = .ok (.getfield 34, 3) := by decide +kernel
theorem dX7_had_59 : decode cX7_had 59 = .ok (.aload_n 0, 1) := by decide +kernel
theorem dX7_had_60 : decode cX7_had 60 = .ok (.getfield 21, 3) := by decide +kernel
theorem dX7_had_63 : decode cX7_had 63 = .ok (.getfield 92, 3) := by decide +kernel
theorem dX7_had_66 : decode cX7_had 66 = .ok (.invokevirtual 205, 3) := by decide +kernel
theorem dX7_had_69 : decode cX7_had 69 = .ok (.ifCond .eq 9, 3) := by decide +kernel
theorem dX7_had_72 : decode cX7_had 72 = .ok (.iload_n 2, 1) := by decide +kernel
theorem dX7_had_73 : decode cX7_had 73 = .ok (.iconst 1, 1) := by decide +kernel
theorem dX7_had_74 : decode cX7_had 74 = .ok (.iload_n 3, 1) := by decide +kernel
theorem dX7_had_75 : decode cX7_had 75 = .ok (.ishl, 1) := by decide +kernel
theorem dX7_had_76 : decode cX7_had 76 = .ok (.ior, 1) := by decide +kernel
theorem dX7_had_77 : decode cX7_had 77 = .ok (.istore_n 2, 1) := by decide +kernel
theorem dX7_had_78 : decode cX7_had 78 = .ok (.iinc 3 1, 3) := by decide +kernel
theorem dX7_had_81 : decode cX7_had 81 = .ok (.goto (-60), 3) := by decide +kernel
theorem dX7_had_84 : decode cX7_had 84 = .ok (.iload_n 2, 1) := by decide +kernel
theorem dX7_had_85 : decode cX7_had 85 = .ok (.ireturn, 1) := by decide +kernel
theorem dX7_was_0 : decode cX7_was 0 = .ok (.iconst 0, 1) := by decide +kernel
theorem dX7_was_1 : decode cX7_was 1 = .ok (.istore_n 1, 1) := by decide +kernel
theorem dX7_was_2 : decode cX7_was 2 = .ok (.iconst 0, 1) := by decide +kernel
theorem dX7_was_3 : decode cX7_was 3 = .ok (.istore_n 2, 1) := by decide +kernel
theorem dX7_was_4 : decode cX7_was 4 = .ok (.iload_n 2, 1) := by decide +kernel
theorem dX7_was_5 : decode cX7_was 5 = .ok (.bipush 9, 2) := by decide +kernel
theorem dX7_was_7 : decode cX7_was 7 = .ok (.if_icmp .gt 41, 3) := by decide +kernel
theorem dX7_was_10 : decode cX7_was 10 = .ok (.aload_n 0, 1) := by decide +kernel
theorem dX7_was_11 : decode cX7_was 11 = .ok (.iload_n 2, 1) := by decide +kernel
theorem dX7_was_12 : decode cX7_was 12 = .ok (.invokevirtual 165, 3) := by decide +kernel
theorem dX7_was_15 : decode cX7_was 15 = .ok (.aload_n 0, 1) := by decide +kernel
theorem dX7_was_16 : decode cX7_was 16 = .ok (.getfield 47, 3) := by decide +kernel
theorem dX7_was_19 : decode cX7_was 19 = .ok (.aload_n 0, 1) := by decide +kernel
theorem dX7_was_20 : decode cX7_was 20 = .ok (.getfield 34, 3) := by decide +kernel
theorem dX7_was_23 : decode cX7_was 23 = .ok (.aload_n 0, 1) := by decide +kernel
theorem dX7_was_24 : decode cX7_was 24 = .ok (.getfield 21, 3) := by decide +kernel
theorem dX7_was_27 : decode cX7_was 27 = .ok (.getfield 92, 3) := by decide +kernel
theorem dX7_was_30 : decode cX7_was 30 = .ok (.invokevirtual 205, 3) := by decide +kernel
theorem dX7_was_33 : decode cX7_was 33 = .ok (.ifCond .eq 9, 3) := by decide +kernel
theorem dX7_was_36 : decode cX7_was 36 = .ok (.iload_n 1, 1) := by decide +kernel
theorem dX7_was_37 : decode cX7_was 37 = .ok (.iconst 1, 1) := by decide +kernel
theorem dX7_was_38 : decode cX7_was 38 = .ok (.iload_n 2, 1) := by decide +kernel
theorem dX7_was_39 : decode cX7_was 39 = .ok (.ishl, 1) := by decide +kernel
theorem dX7_was_40 : decode cX7_was 40 = .ok (.ior, 1) := by decide +kernel
theorem dX7_was_41 : decode cX7_was 41 = .ok (.istore_n 1, 1) := by decide +kernel
theorem dX7_was_42 : decode cX7_was 42 = .ok (.iinc 2 1, 3) := by decide +kernel
theorem dX7_was_45 : decode cX7_was 45 = .ok (.goto (-41), 3) := by decide +kernel
theorem dX7_was_48 : decode cX7_was 48 = .ok (.iload_n 1, 1) := by decide +kernel
theorem dX7_was_49 : decode cX7_was 49 = .ok (.ireturn, 1) := by decide +kernel
theorem dX7_ask_0 : decode cX7_ask 0 = .ok (.iload_n 1, 1) := by decide +kernel
theorem dX7_ask_1 : decode cX7_ask 1 = .ok (.bipush 10, 2) := by decide +kernel
theorem dX7_ask_3 : decode cX7_ask 3 = .ok (.invokestatic 70, 3) := by decide +kernel
theorem dX7_ask_6 : decode cX7_ask 6 = .ok (.ifCond .eq 6, 3) := by decide +kernel
theorem dX7_ask_9 : decode cX7_ask 9 = .ok (.bipush (-2), 2) := by decide +kernel
theorem dX7_ask_11 : decode cX7_ask 11 = .ok (.ireturn, 1) := by decide +kernel
theorem dX7_ask_12 : decode cX7_ask 12 = .ok (.aload_n 0, 1) := by decide +kernel
theorem dX7_ask_13 : decode cX7_ask 13 = .ok (.invokevirtual 209, 3) := by decide +kernel
theorem dX7_ask_16 : decode cX7_ask 16 = .ok (.iconst 0, 1) := by decide +kernel
theorem dX7_ask_17 : decode cX7_ask 17 = .ok (.istore_n 2, 1) := by decide +kernel
theorem dX7_ask_18 : decode cX7_ask 18 = .ok (.iload_n 2, 1) := by decide +kernel
theorem dX7_ask_19 : decode cX7_ask 19 = .ok (.bipush 9, 2) := by decide +kernel
theorem dX7_ask_21 : decode cX7_ask 21 = .ok (.if_icmp .gt 40, 3) := by decide +kernel
theorem dX7_ask_24 : decode cX7_ask 24 = .ok (.aload_n 0, 1) := by decide +kernel
theorem dX7_ask_25 : decode cX7_ask 25 = .ok (.iload_n 2, 1) := by decide +kernel
theorem dX7_ask_26 : decode cX7_ask 26 = .ok (.invokevirtual 165, 3) := by decide +kernel
theorem dX7_ask_29 : decode cX7_ask 29 = .ok (.aload_n 0, 1) := by decide +kernel
theorem dX7_ask_30 : decode cX7_ask 30 = .ok (.getfield 47, 3) := by decide +kernel
theorem dX7_ask_33 : decode cX7_ask 33 = .ok (.aload_n 0, 1) := by decide +kernel
theorem dX7_ask_34 : decode cX7_ask 34 = .ok (.getfield 34, 3) := by decide +kernel
theorem dX7_ask_37 : decode cX7_ask 37 = .ok (.aload_n 0, 1) := by decide +kernel
theorem dX7_ask_38 : decode cX7_ask 38 = .ok (.getfield 21, 3) := by decide +kernel
theorem dX7_ask_41 : decode cX7_ask 41 = .ok (.getfield 92, 3) := by decide +kernel
theorem dX7_ask_44 : decode cX7_ask 44 = .ok (.invokevirtual 205, 3) := by decide +kernel
theorem dX7_ask_47 : decode cX7_ask 47 = .ok (.ifCond .eq 8, 3) := by decide +kernel
theorem dX7_ask_50 : decode cX7_ask 50 = .ok (.aload_n 0, 1) := by decide +kernel
theorem dX7_ask_51 : decode cX7_ask 51 = .ok (.iload_n 1, 1) := by decide +kernel
theorem dX7_ask_52 : decode cX7_ask 52 = .ok (.invokevirtual 212, 3) := by decide +kernel
theorem dX7_ask_55 : decode cX7_ask 55 = .ok (.iinc 2 1, 3) := by decide +kernel
theorem dX7_ask_58 : decode cX7_ask 58 = .ok (.goto (-40), 3) := by decide +kernel
theorem dX7_ask_61 : decode cX7_ask 61 = .ok (.iconst (-1), 1) := by decide +kernel
theorem dX7_ask_62 : decode cX7_ask 62 = .ok (.istore_n 2, 1) := by decide +kernel
theorem dX7_ask_63 : decode cX7_ask 63 = .ok (.iconst 0, 1) := by decide +kernel
theorem dX7_ask_64 : decode cX7_ask 64 = .ok (.istore_n 3, 1) := by decide +kernel
theorem dX7_ask_65 : decode cX7_ask 65 = .ok (.iconst 0, 1) := by decide +kernel
theorem dX7_ask_66 : decode cX7_ask 66 = .ok (.istore 4, 2) := by decide +kernel
theorem dX7_ask_68 : decode cX7_ask 68 = .ok (.iload 4, 2) := by decide +kernel
theorem dX7_ask_70 : decode cX7_ask 70 = .ok (.aload_n 0, 1) := by decide +kernel
theorem dX7_ask_71 : decode cX7_ask 71 = .ok (.getfield 21, 3) := by decide +kernel
theorem dX7_ask_74 : decode cX7_ask 74 = .ok (.getfield 92, 3) := by decide +kernel
theorem dX7_ask_77 : decode cX7_ask 77 = .ok (.if_icmp .ge 38, 3) := by decide +kernel
theorem dX7_ask_80 : decode cX7_ask 80 = .ok (.aload_n 0, 1) := by decide +kernel
theorem dX7_ask_81 : decode cX7_ask 81 = .ok (.getfield 60, 3) := by decide +kernel
theorem dX7_ask_84 : decode cX7_ask 84 = .ok (.iload 4, 2) := by decide +kernel
theorem dX7_ask_86 : decode cX7_ask 86 = .ok (.aaload, 1) := by decide +kernel
theorem dX7_ask_87 : decode cX7_ask 87 = .ok (.invokestatic 215, 3) := by decide +kernel
theorem dX7_ask_90 : decode cX7_ask 90 = .ok (.istore 5, 2) := by decide +kernel
theorem dX7_ask_92 : decode cX7_ask 92 = .ok (.iload_n 2, 1) := by decide +kernel
theorem dX7_ask_93 : decode cX7_ask 93 = .ok (.iconst (-1), 1) := by decide +kernel
theorem dX7_ask_94 : decode cX7_ask 94 = .ok (.if_icmp .eq 9, 3) := by decide +kernel
theorem dX7_ask_97 : decode cX7_ask 97 = .ok (.iload 5, 2) := by decide +kernel
theorem dX7_ask_99 : decode cX7_ask 99 = .ok (.iload_n 3, 1) := by decide +kernel
theorem dX7_ask_100 : decode cX7_ask 100 = .ok (.if_icmp .ge 9, 3) := by decide +kernel
theorem dX7_ask_103 : decode cX7_ask 103 = .ok (.iload 4, 2) := by decide +kernel
theorem dX7_ask_105 : decode cX7_ask 105 = .ok (.istore_n 2, 1) := by decide +kernel
theorem dX7_ask_106 : decode cX7_ask 106 = .ok (.iload 5, 2) := by decide +kernel
theorem dX7_ask_108 : decode cX7_ask 108 = .ok (.istore_n 3, 1) := by decide +kernel
theorem dX7_ask_109 : decode cX7_ask 109 = .ok (.iinc 4 1, 3) := by decide +kernel
theorem dX7_ask_112 : decode cX7_ask 112 = .ok (.goto (-44), 3) := by decide +kernel
theorem dX7_ask_115 : decode cX7_ask 115 = .ok (.iload_n 2, 1) := by decide +kernel
theorem dX7_ask_116 : decode cX7_ask 116 = .ok (.ireturn, 1) := by decide +kernel
theorem dX7_maybe_0 : decode cX7_maybe 0 = .ok (.iload_n 1, 1) := by decide +kernel
theorem dX7_maybe_1 : decode cX7_maybe 1 = .ok (.bipush 17, 2) := by decide +kernel
theorem dX7_maybe_3 : decode cX7_maybe 3 = .ok (.invokestatic 70, 3) := by decide +kernel
theorem dX7_maybe_6 : decode cX7_maybe 6 = .ok (.ifCond .ne 35, 3) := by decide +kernel
theorem dX7_maybe_9 : decode cX7_maybe 9 = .ok (.iload_n 2, 1) := by decide +kernel
theorem dX7_maybe_10 : decode cX7_maybe 10 = .ok (.bipush 10, 2) := by decide +kernel
theorem dX7_maybe_12 : decode cX7_maybe 12 = .ok (.invokestatic 70, 3) := by decide +kernel
theorem dX7_maybe_15 : decode cX7_maybe 15 = .ok (.ifCond .ne 26, 3) := by decide +kernel
theorem dX7_maybe_18 : decode cX7_maybe 18 = .ok (.iload_n 3, 1) := by decide +kernel
theorem dX7_maybe_19 : decode cX7_maybe 19 = .ok (.aload_n 0, 1) := by decide +kernel
theorem dX7_maybe_20 : decode cX7_maybe 20 = .ok (.getfield 21, 3) := by decide +kernel
theorem dX7_maybe_23 : decode cX7_maybe 23 = .ok (.getfield 92, 3) := by decide +kernel
theorem dX7_maybe_26 : decode cX7_maybe 26 = .ok (.invokestatic 70, 3) := by decide +kernel
theorem dX7_maybe_29 : decode cX7_maybe 29 = .ok (.ifCond .ne 12, 3) := by decide +kernel
theorem dX7_maybe_32 : decode cX7_maybe 32 = .ok (.iload 4, 2) := by decide +kernel
theorem dX7_maybe_34 : decode cX7_maybe 34 = .ok (.iconst 2, 1) := by decide +kernel
theorem dX7_maybe_35 : decode cX7_maybe 35 = .ok (.invokestatic 70, 3) := by decide +kernel
theorem dX7_maybe_38 : decode cX7_maybe 38 = .ok (.ifCond .eq 7, 3) := by decide +kernel
theorem dX7_maybe_41 : decode cX7_maybe 41 = .ok (.ldc2_w 221, 3) := by decide +kernel
theorem dX7_maybe_44 : decode cX7_maybe 44 = .ok (.lreturn, 1) := by decide +kernel
theorem dX7_maybe_45 : decode cX7_maybe 45 = .ok (.aload_n 0, 1) := by decide +kernel
theorem dX7_maybe_46 : decode cX7_maybe 46 = .ok (.getfield 63, 3) := by decide +kernel
theorem dX7_maybe_49 : decode cX7_maybe 49 = .ok (.iconst 0, 1) := by decide +kernel
theorem dX7_maybe_50 : decode cX7_maybe 50 = .ok (.invokestatic 223, 3) := by decide +kernel
theorem dX7_maybe_53 : decode cX7_maybe 53 = .ok (.iconst 0, 1) := by decide +kernel
theorem dX7_maybe_54 : decode cX7_maybe 54 = .ok (.istore 5, 2) := by decide +kernel
theorem dX7_maybe_56 : decode cX7_maybe 56 = .ok (.iload 5, 2) := by decide +kernel
theorem dX7_maybe_58 : decode cX7_maybe 58 = .ok (.sipush 1024, 3) := by decide +kernel
theorem dX7_maybe_61 : decode cX7_maybe 61 = .ok (.if_icmp .ge 60, 3) := by decide +kernel
theorem dX7_maybe_64 : decode cX7_maybe 64 = .ok (.iload 5, 2) := by decide +kernel
theorem dX7_maybe_66 : decode cX7_maybe 66 = .ok (.aload_n 0, 1) := by decide +kernel
theorem dX7_maybe_67 : decode cX7_maybe 67 = .ok (.getfield 21, 3) := by decide +kernel
theorem dX7_maybe_70 : decode cX7_maybe 70 = .ok (.getfield 229, 3) := by decide +kernel
theorem dX7_maybe_73 : decode cX7_maybe 73 = .ok (.iconst (-1), 1) := by decide +kernel
theorem dX7_maybe_74 : decode cX7_maybe 74 = .ok (.ixor, 1) := by decide +kernel
theorem dX7_maybe_75 : decode cX7_maybe 75 = .ok (.iand, 1) := by decide +kernel
theorem dX7_maybe_76 : decode cX7_maybe 76 = .ok (.ifCond .ne 39, 3) := by decide +kernel
theorem dX7_maybe_79 : decode cX7_maybe 79 = .ok (.aload_n 0, 1) := by decide +kernel
theorem dX7_maybe_80 : decode cX7_maybe 80 = .ok (.getfield 40, 3) := by decide +kernel
theorem dX7_maybe_83 : decode cX7_maybe 83 = .ok (.iload 5, 2) := by decide +kernel
theorem dX7_maybe_85 : decode cX7_maybe 85 = .ok (.iload_n 2, 1) := by decide +kernel
theorem dX7_maybe_86 : decode cX7_maybe 86 = .ok (.aload_n 0, 1) := by decide +kernel
theorem dX7_maybe_87 : decode cX7_maybe 87 = .ok (.getfield 34, 3) := by decide +kernel
theorem dX7_maybe_90 : decode cX7_maybe 90 = .ok (.invokevirtual 161, 3) := by decide +kernel
theorem dX7_maybe_93 : decode cX7_maybe 93 = .ok (.iload_n 3, 1) := by decide +kernel
theorem dX7_maybe_94 : decode cX7_maybe 94 = .ok (.ishr, 1) := by decide +kernel
theorem dX7_maybe_95 : decode cX7_maybe 95 = .ok (.iconst 1, 1) := by decide +kernel
theorem dX7_maybe_96 : decode cX7_maybe 96 = .ok (.iand, 1) := by decide +kernel
theorem dX7_maybe_97 : decode cX7_maybe 97 = .ok (.iconst 1, 1) := by decide +kernel
theorem dX7_maybe_98 : decode cX7_maybe 98 = .ok (.if_icmp .ne 17, 3) := by decide +kernel
theorem dX7_maybe_101 : decode cX7_maybe 101 = .ok (.aload_n 0, 1) := by decide +kernel
theorem dX7_maybe_102 : decode cX7_maybe 102 = .ok (.getfield 63, 3) := by decide +kernel
theorem dX7_maybe_105 : decode cX7_maybe 105 = .ok (.iload 5, 2) := by decide +kernel
theorem dX7_maybe_107 : decode cX7_maybe 107 = .ok (.invokestatic 156, 3) := by decide +kernel
theorem dX7_maybe_110 : decode cX7_maybe 110 = .ok (.dup2, 1) := by decide +kernel
theorem dX7_maybe_111 : decode cX7_maybe 111 = .ok (.iaload, 1) := by decide +kernel
theorem dX7_maybe_112 : decode cX7_maybe 112 = .ok (.iconst 1, 1) := by decide +kernel
theorem dX7_maybe_113 : decode cX7_maybe 113 = .ok (.iadd, 1) := by decide +kernel
theorem dX7_maybe_114 : decode cX7_maybe 114 = .ok (.iastore, 1) := by decide +kernel
theorem dX7_maybe_115 : decode cX7_maybe 115 = .ok (.iinc 5 1, 3) := by decide +kernel
theorem dX7_maybe_118 : decode cX7_maybe 118 = .ok (.goto (-62), 3) := by decide +kernel
theorem dX7_maybe_121 : decode cX7_maybe 121 = .ok (.aload_n 0, 1) := by decide +kernel
theorem dX7_maybe_122 : decode cX7_maybe 122 = .ok (.getfield 21, 3) := by decide +kernel
theorem dX7_maybe_125 : decode cX7_maybe 125 = .ok (.getfield 229, 3) := by decide +kernel
theorem dX7_maybe_128 : decode cX7_maybe 128 = .ok (.invokestatic 156, 3) := by decide +kernel
theorem dX7_maybe_131 : decode cX7_maybe 131 = .ok (.istore 5, 2) := by decide +kernel
theorem dX7_maybe_133 : decode cX7_maybe 133 = .ok (.aload_n 0, 1) := by decide +kernel
theorem dX7_maybe_134 : decode cX7_maybe 134 = .ok (.iload_n 1, 1) := by decide +kernel
theorem dX7_maybe_135 : decode cX7_maybe 135 = .ok (.iload 5, 2) := by decide +kernel
theorem dX7_maybe_137 : decode cX7_maybe 137 = .ok (.invokevirtual 232, 3) := by decide +kernel
theorem dX7_maybe_140 : decode cX7_maybe 140 = .ok (.lstore 6, 2) := by decide +kernel
theorem dX7_maybe_142 : decode cX7_maybe 142 = .ok (.lconst 1, 1) := by decide +kernel
theorem dX7_maybe_143 : decode cX7_maybe 143 = .ok (.iconst 4, 1) := by decide +kernel
theorem dX7_maybe_144 : decode cX7_maybe 144 = .ok (.iload 5, 2) := by decide +kernel
theorem dX7_maybe_146 : decode cX7_maybe 146 = .ok (.imul, 1) := by decide +kernel
theorem dX7_maybe_147 : decode cX7_maybe 147 = .ok (.lshl, 1) := by decide +kernel
theorem dX7_maybe_148 : decode cX7_maybe 148 = .ok (.lstore 8, 2) := by decide +kernel
theorem dX7_maybe_150 : decode cX7_maybe 150 = .ok (.iconst 0, 1) := by decide +kernel
theorem dX7_maybe_151 : decode cX7_maybe 151 = .ok (.istore 10, 2) := by decide +kernel
theorem dX7_maybe_153 : decode cX7_maybe 153 = .ok (.iload 10, 2) := by decide +kernel
theorem dX7_maybe_155 : decode cX7_maybe 155 = .ok (.iconst 4, 1) := by decide +kernel
theorem dX7_maybe_156 : decode cX7_maybe 156 = .ok (.iload 5, 2) := by decide +kernel
theorem dX7_maybe_158 : decode cX7_maybe 158 = .ok (.imul, 1) := by decide +kernel
theorem dX7_maybe_159 : decode cX7_maybe 159 = .ok (.if_icmp .ge 36, 3) := by decide +kernel
theorem dX7_maybe_162 : decode cX7_maybe 162 = .ok (.lload 6, 2) := by decide +kernel
theorem dX7_maybe_164 : decode cX7_maybe 164 = .ok (.ldc2_w 236, 3) := by decide +kernel
theorem dX7_maybe_167 : decode cX7_maybe 167 = .ok (.lrem, 1) := by decide +kernel
theorem dX7_maybe_168 : decode cX7_maybe 168 = .ok (.lconst 0, 1) := by decide +kernel
theorem dX7_maybe_169 : decode cX7_maybe 169 = .ok (.lcmp, 1) := by decide +kernel
theorem dX7_maybe_170 : decode cX7_maybe 170 = .ok (.ifCond .ne 25, 3) := by decide +kernel
theorem dX7_maybe_173 : decode cX7_maybe 173 = .ok (.lload 6, 2) := by decide +kernel
theorem dX7_maybe_175 : decode cX7_maybe 175 = .ok (.ldc2_w 236, 3) := by decide +kernel
theorem dX7_maybe_178 : decode cX7_maybe 178 = .ok (.ldiv, 1) := by decide +kernel
theorem dX7_maybe_179 : decode cX7_maybe 179 = .ok (.lstore 6, 2) := by decide +kernel
theorem dX7_maybe_181 : decode cX7_maybe 181 = .ok (.lload 8, 2) := by decide +kernel
theorem dX7_maybe_183 : decode cX7_maybe 183 = .ok (.ldc2_w 236, 3) := by decide +kernel
theorem dX7_maybe_186 : decode cX7_maybe 186 = .ok (.ldiv, 1) := by decide +kernel
theorem dX7_maybe_187 : decode cX7_maybe 187 = .ok (.lstore 8, 2) := by decide +kernel
theorem dX7_maybe_189 : decode cX7_maybe 189 = .ok (.iinc 10 1, 3) := by decide +kernel
theorem dX7_maybe_192 : decode cX7_maybe 192 = .ok (.goto (-39), 3) := by decide +kernel
theorem dX7_maybe_195 : decode cX7_maybe 195 = .ok (.iload 4, 2) := by decide +kernel
theorem dX7_maybe_197 : decode cX7_maybe 197 = .ok (.ifCond .ne 8, 3) := by decide +kernel
theorem dX7_maybe_200 : decode cX7_maybe 200 = .ok (.lload 6, 2) := by decide +kernel
theorem dX7_maybe_202 : decode cX7_maybe 202 = .ok (.goto 5, 3) := by decide +kernel
theorem dX7_maybe_205 : decode cX7_maybe 205 = .ok (.lload 8, 2) := by decide +kernel
theorem dX7_maybe_207 : decode cX7_maybe 207 = .ok (.lreturn, 1) := by decide +kernel
theorem dX7_depot_0 : decode cX7_depot 0 = .ok (.iload_n 2, 1) := by decide +kernel
theorem dX7_depot_1 : decode cX7_depot 1 = .ok (.bipush 17, 2) := by decide +kernel
theorem dX7_depot_3 : decode cX7_depot 3 = .ok (.invokestatic 70, 3) := by decide +kernel
theorem dX7_depot_6 : decode cX7_depot 6 = .ok (.ifCond .ne 11, 3) := by decide +kernel
theorem dX7_depot_9 : decode cX7_depot 9 = .ok (.iload_n 3, 1) := by decide +kernel
theorem dX7_depot_10 : decode cX7_depot 10 = .ok (.iconst 2, 1) := by decide +kernel
theorem dX7_depot_11 : decode cX7_depot 11 = .ok (.invokestatic 70, 3) := by decide +kernel
theorem dX7_depot_14 : decode cX7_depot 14 = .ok (.ifCond .eq 6, 3) := by decide +kernel
theorem dX7_depot_17 : decode cX7_depot 17 = .ok (.bipush (-2), 2) := by decide +kernel
theorem dX7_depot_19 : decode cX7_depot 19 = .ok (.ireturn, 1) := by decide +kernel
theorem dX7_depot_20 : decode cX7_depot 20 = .ok (.aload_n 0, 1) := by decide +kernel
theorem dX7_depot_21 : decode cX7_depot 21 = .ok (.getfield 34, 3) := by decide +kernel
theorem dX7_depot_24 : decode cX7_depot 24 = .ok (.invokevirtual 171, 3) := by decide +kernel
theorem dX7_depot_27 : decode cX7_depot 27 = .ok (.aload_n 0, 1) := by decide +kernel
theorem dX7_depot_28 : decode cX7_depot 28 = .ok (.getfield 34, 3) := by decide +kernel
theorem dX7_depot_31 : decode cX7_depot 31 = .ok (.getfield 174, 3) := by decide +kernel
theorem dX7_depot_34 : decode cX7_depot 34 = .ok (.iconst 0, 1) := by decide +kernel
theorem dX7_depot_35 : decode cX7_depot 35 = .ok (.putfield 131, 3) := by decide +kernel
theorem dX7_depot_38 : decode cX7_depot 38 = .ok (.iload_n 1, 1) := by decide +kernel
theorem dX7_depot_39 : decode cX7_depot 39 = .ok (.istore 4, 2) := by decide +kernel
theorem dX7_depot_41 : decode cX7_depot 41 = .ok (.iconst 0, 1) := by decide +kernel
theorem dX7_depot_42 : decode cX7_depot 42 = .ok (.istore 5, 2) := by decide +kernel
theorem dX7_depot_44 : decode cX7_depot 44 = .ok (.iload 5, 2) := by decide +kernel
theorem dX7_depot_46 : decode cX7_depot 46 = .ok (.iload_n 2, 1) := by decide +kernel
theorem dX7_depot_47 : decode cX7_depot 47 = .ok (.if_icmp .ge 38, 3) := by decide +kernel
theorem dX7_depot_50 : decode cX7_depot 50 = .ok (.ldc 238, 2) := by decide +kernel
theorem dX7_depot_52 : decode cX7_depot 52 = .ok (.iload 4, 2) := by decide +kernel
theorem dX7_depot_54 : decode cX7_depot 54 = .ok (.imul, 1) := by decide +kernel
theorem dX7_depot_55 : decode cX7_depot 55 = .ok (.sipush 12345, 3) := by decide +kernel
theorem dX7_depot_58 : decode cX7_depot 58 = .ok (.iadd, 1) := by decide +kernel
theorem dX7_depot_59 : decode cX7_depot 59 = .ok (.istore 4, 2) := by decide +kernel
theorem dX7_depot_61 : decode cX7_depot 61 = .ok (.aload_n 0, 1) := by decide +kernel
theorem dX7_depot_62 : decode cX7_depot 62 = .ok (.getfield 34, 3) := by decide +kernel
theorem dX7_depot_65 : decode cX7_depot 65 = .ok (.getfield 174, 3) := by decide +kernel
theorem dX7_depot_68 : decode cX7_depot 68 = .ok (.iload 4, 2) := by decide +kernel
theorem dX7_depot_70 : decode cX7_depot 70 = .ok (.bipush 16, 2) := by decide +kernel
theorem dX7_depot_72 : decode cX7_depot 72 = .ok (.iushr, 1) := by decide +kernel
theorem dX7_depot_73 : decode cX7_depot 73 = .ok (.bipush 8, 2) := by decide +kernel
theorem dX7_depot_75 : decode cX7_depot 75 = .ok (.irem, 1) := by decide +kernel
theorem dX7_depot_76 : decode cX7_depot 76 = .ok (.invokevirtual 239, 3) := by decide +kernel
theorem dX7_depot_79 : decode cX7_depot 79 = .ok (.iinc 5 1, 3) := by decide +kernel
theorem dX7_depot_82 : decode cX7_depot 82 = .ok (.goto (-38), 3) := by decide +kernel
theorem dX7_depot_85 : decode cX7_depot 85 = .ok (.aload_n 0, 1) := by decide +kernel
theorem dX7_depot_86 : decode cX7_depot 86 = .ok (.getfield 34, 3) := by decide +kernel
theorem dX7_depot_89 : decode cX7_depot 89 = .ok (.invokevirtual 181, 3) := by decide +kernel
theorem dX7_depot_92 : decode cX7_depot 92 = .ok (.iload_n 3, 1) := by decide +kernel
theorem dX7_depot_93 : decode cX7_depot 93 = .ok (.ifCond .ne 13, 3) := by decide +kernel
theorem dX7_depot_96 : decode cX7_depot 96 = .ok (.aload_n 0, 1) := by decide +kernel
theorem dX7_depot_97 : decode cX7_depot 97 = .ok (.getfield 34, 3) := by decide +kernel
theorem dX7_depot_100 : decode cX7_depot 100 = .ok (.invokevirtual 168, 3) := by decide +kernel
theorem dX7_depot_103 : decode cX7_depot 103 = .ok (.goto 13, 3) := by decide +kernel
theorem dX7_depot_106 : decode cX7_depot 106 = .ok (.aload_n 0, 1) := by decide +kernel
theorem dX7_depot_107 : decode cX7_depot 107 = .ok (.getfield 34, 3) := by decide +kernel
theorem dX7_depot_110 : decode cX7_depot 110 = .ok (.getfield 174, 3) := by decide +kernel
theorem dX7_depot_113 : decode cX7_depot 113 = .ok (.getfield 131, 3) := by decide +kernel
theorem dX7_depot_116 : decode cX7_depot 116 = .ok (.ireturn, 1) := by decide +kernel
theorem dX7_sheet_0 : decode cX7_sheet 0 = .ok (.iload_n 1, 1) := by decide +kernel
theorem dX7_sheet_1 : decode cX7_sheet 1 = .ok (.iconst 4, 1) := by decide +kernel
theorem dX7_sheet_2 : decode cX7_sheet 2 = .ok (.invokestatic 70, 3) := by decide +kernel
theorem dX7_sheet_5 : decode cX7_sheet 5 = .ok (.ifCond .ne 17, 3) := by decide +kernel
theorem dX7_sheet_8 : decode cX7_sheet 8 = .ok (.iload_n 2, 1) := by decide +kernel
theorem dX7_sheet_9 : decode cX7_sheet 9 = .ok (.iconst 3, 1) := by decide +kernel
theorem dX7_sheet_10 : decode cX7_sheet 10 = .ok (.invokestatic 70, 3) := by decide +kernel
theorem dX7_sheet_13 : decode cX7_sheet 13 = .ok (.ifCond .ne 9, 3) := by decide +kernel
theorem dX7_sheet_16 : decode cX7_sheet 16 = .ok (.iload_n 3, 1) := by decide +kernel
theorem dX7_sheet_17 : decode cX7_sheet 17 = .ok (.bipush 60, 2) := by decide +kernel
theorem dX7_sheet_19 : decode cX7_sheet 19 = .ok (.if_icmp .le 6, 3) := by decide +kernel
theorem dX7_sheet_22 : decode cX7_sheet 22 = .ok (.bipush (-2), 2) := by decide +kernel
theorem dX7_sheet_24 : decode cX7_sheet 24 = .ok (.ireturn, 1) := by decide +kernel
theorem dX7_sheet_25 : decode cX7_sheet 25 = .ok (.iload_n 3, 1) := by decide +kernel
theorem dX7_sheet_26 : decode cX7_sheet 26 = .ok (.ifCond .ge 9, 3) := by decide +kernel
theorem dX7_sheet_29 : decode cX7_sheet 29 = .ok (.aload_n 0, 1) := by decide +kernel
theorem dX7_sheet_30 : decode cX7_sheet 30 = .ok (.iconst 5, 1) := by decide +kernel
theorem dX7_sheet_31 : decode cX7_sheet 31 = .ok (.invokevirtual 195, 3) := by decide +kernel
theorem dX7_sheet_34 : decode cX7_sheet 34 = .ok (.ireturn, 1) := by decide +kernel
theorem dX7_sheet_35 : decode cX7_sheet 35 = .ok (.aload_n 0, 1) := by decide +kernel
theorem dX7_sheet_36 : decode cX7_sheet 36 = .ok (.getfield 54, 3) := by decide +kernel
theorem dX7_sheet_39 : decode cX7_sheet 39 = .ok (.iload_n 1, 1) := by decide +kernel
theorem dX7_sheet_40 : decode cX7_sheet 40 = .ok (.aaload, 1) := by decide +kernel
theorem dX7_sheet_41 : decode cX7_sheet 41 = .ok (.iload_n 2, 1) := by decide +kernel
theorem dX7_sheet_42 : decode cX7_sheet 42 = .ok (.iload_n 3, 1) := by decide +kernel
theorem dX7_sheet_43 : decode cX7_sheet 43 = .ok (.invokevirtual 242, 3) := by decide +kernel
theorem dX7_sheet_46 : decode cX7_sheet 46 = .ok (.iload_n 3, 1) := by decide +kernel
theorem dX7_sheet_47 : decode cX7_sheet 47 = .ok (.ireturn, 1) := by decide +kernel
theorem dX7_lose_0 : decode cX7_lose 0 = .ok (.iload_n 1, 1) := by decide +kernel
theorem dX7_lose_1 : decode cX7_lose 1 = .ok (.iconst 4, 1) := by decide +kernel
theorem dX7_lose_2 : decode cX7_lose 2 = .ok (.invokestatic 70, 3) := by decide +kernel
theorem dX7_lose_5 : decode cX7_lose 5 = .ok (.ifCond .eq 6, 3) := by decide +kernel
theorem dX7_lose_8 : decode cX7_lose 8 = .ok (.bipush (-2), 2) := by decide +kernel
theorem dX7_lose_10 : decode cX7_lose 10 = .ok (.ireturn, 1) := by decide +kernel
theorem dX7_lose_11 : decode cX7_lose 11 = .ok (.aload_n 0, 1) := by decide +kernel
theorem dX7_lose_12 : decode cX7_lose 12 = .ok (.getfield 54, 3) := by decide +kernel
theorem dX7_lose_15 : decode cX7_lose 15 = .ok (.iload_n 1, 1) := by decide +kernel
theorem dX7_lose_16 : decode cX7_lose 16 = .ok (.aaload, 1) := by decide +kernel
theorem dX7_lose_17 : decode cX7_lose 17 = .ok (.invokevirtual 192, 3) := by decide +kernel
theorem dX7_lose_20 : decode cX7_lose 20 = .ok (.ifCond .eq 9, 3) := by decide +kernel
theorem dX7_lose_23 : decode cX7_lose 23 = .ok (.aload_n 0, 1) := by decide +kernel
theorem dX7_lose_24 : decode cX7_lose 24 = .ok (.iconst 1, 1) := by decide +kernel
theorem dX7_lose_25 : decode cX7_lose 25 = .ok (.invokevirtual 195, 3) := by decide +kernel
theorem dX7_lose_28 : decode cX7_lose 28 = .ok (.ireturn, 1) := by decide +kernel
theorem dX7_lose_29 : decode cX7_lose 29 = .ok (.aload_n 0, 1) := by decide +kernel
theorem dX7_lose_30 : decode cX7_lose 30 = .ok (.getfield 54, 3) := by decide +kernel
theorem dX7_lose_33 : decode cX7_lose 33 = .ok (.iload_n 1, 1) := by decide +kernel
theorem dX7_lose_34 : decode cX7_lose 34 = .ok (.aaload, 1) := by decide +kernel
theorem dX7_lose_35 : decode cX7_lose 35 = .ok (.getfield 201, 3) := by decide +kernel
theorem dX7_lose_38 : decode cX7_lose 38 = .ok (.istore_n 2, 1) := by decide +kernel
theorem dX7_lose_39 : decode cX7_lose 39 = .ok (.aload_n 0, 1) := by decide +kernel
theorem dX7_lose_40 : decode cX7_lose 40 = .ok (.getfield 54, 3) := by decide +kernel
theorem dX7_lose_43 : decode cX7_lose 43 = .ok (.iload_n 1, 1) := by decide +kernel
theorem dX7_lose_44 : decode cX7_lose 44 = .ok (.aaload, 1) := by decide +kernel
theorem dX7_lose_45 : decode cX7_lose 45 = .ok (.invokevirtual 246, 3) := by decide +kernel
theorem dX7_lose_48 : decode cX7_lose 48 = .ok (.iload_n 2, 1) := by decide +kernel
theorem dX7_lose_49 : decode cX7_lose 49 = .ok (.ireturn, 1) := by decide +kernel
theorem dX7_lay_0 : decode cX7_lay 0 = .ok (.aload_n 0, 1) := by decide +kernel
theorem dX7_lay_1 : decode cX7_lay 1 = .ok (.iload_n 1, 1) := by decide +kernel
theorem dX7_lay_2 : decode cX7_lay 2 = .ok (.iload_n 2, 1) := by decide +kernel
theorem dX7_lay_3 : decode cX7_lay 3 = .ok (.iload_n 3, 1) := by decide +kernel
theorem dX7_lay_4 : decode cX7_lay 4 = .ok (.invokevirtual 249, 3) := by decide +kernel
theorem dX7_lay_7 : decode cX7_lay 7 = .ok (.istore 5, 2) := by decide +kernel
theorem dX7_lay_9 : decode cX7_lay 9 = .ok (.iload 5, 2) := by decide +kernel
theorem dX7_lay_11 : decode cX7_lay 11 = .ok (.ifCond .eq 6, 3) := by decide +kernel
theorem dX7_lay_14 : decode cX7_lay 14 = .ok (.iload 5, 2) := by decide +kernel
theorem dX7_lay_16 : decode cX7_lay 16 = .ok (.ireturn, 1) := by decide +kernel
theorem dX7_lay_17 : decode cX7_lay 17 = .ok (.aload_n 0, 1) := by decide +kernel
theorem dX7_lay_18 : decode cX7_lay 18 = .ok (.getfield 54, 3) := by decide +kernel
theorem dX7_lay_21 : decode cX7_lay 21 = .ok (.iload_n 1, 1) := by decide +kernel
theorem dX7_lay_22 : decode cX7_lay 22 = .ok (.aaload, 1) := by decide +kernel
theorem dX7_lay_23 : decode cX7_lay 23 = .ok (.iload_n 3, 1) := by decide +kernel
theorem dX7_lay_24 : decode cX7_lay 24 = .ok (.iload 4, 2) := by decide +kernel
theorem dX7_lay_26 : decode cX7_lay 26 = .ok (.invokevirtual 253, 3) := by decide +kernel
theorem dX7_lay_29 : decode cX7_lay 29 = .ok (.iconst 1, 1) := by decide +kernel
theorem dX7_lay_30 : decode cX7_lay 30 = .ok (.ireturn, 1) := by decide +kernel
theorem dX7_get_0 : decode cX7_get 0 = .ok (.aload_n 0, 1) := by decide +kernel
theorem dX7_get_1 : decode cX7_get 1 = .ok (.iload_n 1, 1) := by decide +kernel
theorem dX7_get_2 : decode cX7_get 2 = .ok (.iload_n 2, 1) := by decide +kernel
theorem dX7_get_3 : decode cX7_get 3 = .ok (.iload_n 3, 1) := by decide +kernel
theorem dX7_get_4 : decode cX7_get 4 = .ok (.invokevirtual 249, 3) := by decide +kernel
theorem dX7_get_7 : decode cX7_get 7 = .ok (.ifCond .eq 9, 3) := by decide +kernel
theorem dX7_get_10 : decode cX7_get 10 = .ok (.ldc_w 256, 3) := by decide +kernel
theorem dX7_get_13 : decode cX7_get 13 = .ok (.goto 14, 3) := by decide +kernel
theorem dX7_get_16 : decode cX7_get 16 = .ok (.aload_n 0, 1) := by decide +kernel
theorem dX7_get_17 : decode cX7_get 17 = .ok (.getfield 54, 3) := by decide +kernel
theorem dX7_get_20 : decode cX7_get 20 = .ok (.iload_n 1, 1) := by decide +kernel
theorem dX7_get_21 : decode cX7_get 21 = .ok (.aaload, 1) := by decide +kernel
theorem dX7_get_22 : decode cX7_get 22 = .ok (.getfield 198, 3) := by decide +kernel
theorem dX7_get_25 : decode cX7_get 25 = .ok (.iload_n 3, 1) := by decide +kernel
theorem dX7_get_26 : decode cX7_get 26 = .ok (.iaload, 1) := by decide +kernel
theorem dX7_get_27 : decode cX7_get 27 = .ok (.ireturn, 1) := by decide +kernel
theorem dX7_copy_0 : decode cX7_copy 0 = .ok (.iload_n 1, 1) := by decide +kernel
theorem dX7_copy_1 : decode cX7_copy 1 = .ok (.iconst 4, 1) := by decide +kernel
theorem dX7_copy_2 : decode cX7_copy 2 = .ok (.invokestatic 70, 3) := by decide +kernel
theorem dX7_copy_5 : decode cX7_copy 5 = .ok (.ifCond .ne 11, 3) := by decide +kernel
theorem dX7_copy_8 : decode cX7_copy 8 = .ok (.iload_n 3, 1) := by decide +kernel
theorem dX7_copy_9 : decode cX7_copy 9 = .ok (.iconst 4, 1) := by decide +kernel
theorem dX7_copy_10 : decode cX7_copy 10 = .ok (.invokestatic 70, 3) := by decide +kernel
theorem dX7_copy_13 : decode cX7_copy 13 = .ok (.ifCond .eq 6, 3) := by decide +kernel
theorem dX7_copy_16 : decode cX7_copy 16 = .ok (.bipush (-2), 2) := by decide +kernel
theorem dX7_copy_18 : decode cX7_copy 18 = .ok (.ireturn, 1) := by decide +kernel
theorem dX7_copy_19 : decode cX7_copy 19 = .ok (.aload_n 0, 1) := by decide +kernel
theorem dX7_copy_20 : decode cX7_copy 20 = .ok (.getfield 54, 3) := by decide +kernel
theorem dX7_copy_23 : decode cX7_copy 23 = .ok (.iload_n 1, 1) := by decide +kernel
theorem dX7_copy_24 : decode cX7_copy 24 = .ok (.aaload, 1) := by decide +kernel
theorem dX7_copy_25 : decode cX7_copy 25 = .ok (.invokevirtual 192, 3) := by decide +kernel
theorem dX7_copy_28 : decode cX7_copy 28 = .ok (.ifCond .ne 15, 3) := by decide +kernel
theorem dX7_copy_31 : decode cX7_copy 31 = .ok (.aload_n 0, 1) := by decide +kernel
theorem dX7_copy_32 : decode cX7_copy 32 = .ok (.getfield 54, 3) := by decide +kernel
theorem dX7_copy_35 : decode cX7_copy 35 = .ok (.iload_n 3, 1) := by decide +kernel
theorem dX7_copy_36 : decode cX7_copy 36 = .ok (.aaload, 1) := by decide +kernel
theorem dX7_copy_37 : decode cX7_copy 37 = .ok (.invokevirtual 192, 3) := by decide +kernel
theorem dX7_copy_40 : decode cX7_copy 40 = .ok (.ifCond .eq 9, 3) := by decide +kernel
theorem dX7_copy_43 : decode cX7_copy 43 = .ok (.aload_n 0, 1) := by decide +kernel
theorem dX7_copy_44 : decode cX7_copy 44 = .ok (.iconst 1, 1) := by decide +kernel
theorem dX7_copy_45 : decode cX7_copy 45 = .ok (.invokevirtual 195, 3) := by decide +kernel
theorem dX7_copy_48 : decode cX7_copy 48 = .ok (.ireturn, 1) := by decide +kernel
theorem dX7_copy_49 : decode cX7_copy 49 = .ok (.aload_n 0, 1) := by decide +kernel
theorem dX7_copy_50 : decode cX7_copy 50 = .ok (.getfield 54, 3) := by decide +kernel
theorem dX7_copy_53 : decode cX7_copy 53 = .ok (.iload_n 1, 1) := by decide +kernel
theorem dX7_copy_54 : decode cX7_copy 54 = .ok (.aaload, 1) := by decide +kernel
theorem dX7_copy_55 : decode cX7_copy 55 = .ok (.getfield 257, 3) := by decide +kernel
theorem dX7_copy_58 : decode cX7_copy 58 = .ok (.aload_n 0, 1) := by decide +kernel
theorem dX7_copy_59 : decode cX7_copy 59 = .ok (.getfield 54, 3) := by decide +kernel
theorem dX7_copy_62 : decode cX7_copy 62 = .ok (.iload_n 3, 1) := by decide +kernel
theorem dX7_copy_63 : decode cX7_copy 63 = .ok (.aaload, 1) := by decide +kernel
theorem dX7_copy_64 : decode cX7_copy 64 = .ok (.getfield 257, 3) := by decide +kernel
theorem dX7_copy_67 : decode cX7_copy 67 = .ok (.if_icmp .eq 9, 3) := by decide +kernel
theorem dX7_copy_70 : decode cX7_copy 70 = .ok (.aload_n 0, 1) := by decide +kernel
theorem dX7_copy_71 : decode cX7_copy 71 = .ok (.iconst 4, 1) := by decide +kernel
theorem dX7_copy_72 : decode cX7_copy 72 = .ok (.invokevirtual 195, 3) := by decide +kernel
theorem dX7_copy_75 : decode cX7_copy 75 = .ok (.ireturn, 1) := by decide +kernel
theorem dX7_copy_76 : decode cX7_copy 76 = .ok (.aload_n 0, 1) := by decide +kernel
theorem dX7_copy_77 : decode cX7_copy 77 = .ok (.getfield 54, 3) := by decide +kernel
theorem dX7_copy_80 : decode cX7_copy 80 = .ok (.iload_n 1, 1) := by decide +kernel
theorem dX7_copy_81 : decode cX7_copy 81 = .ok (.aaload, 1) := by decide +kernel
theorem dX7_copy_82 : decode cX7_copy 82 = .ok (.iload_n 2, 1) := by decide +kernel
theorem dX7_copy_83 : decode cX7_copy 83 = .ok (.iload 5, 2) := by decide +kernel
theorem dX7_copy_85 : decode cX7_copy 85 = .ok (.invokevirtual 260, 3) := by decide +kernel
theorem dX7_copy_88 : decode cX7_copy 88 = .ok (.ifCond .eq 19, 3) := by decide +kernel
theorem dX7_copy_91 : decode cX7_copy 91 = .ok (.aload_n 0, 1) := by decide +kernel
theorem dX7_copy_92 : decode cX7_copy 92 = .ok (.getfield 54, 3) := by decide +kernel
theorem dX7_copy_95 : decode cX7_copy 95 = .ok (.iload_n 3, 1) := by decide +kernel
theorem dX7_copy_96 : decode cX7_copy 96 = .ok (.aaload, 1) := by decide +kernel
theorem dX7_copy_97 : decode cX7_copy 97 = .ok (.iload 4, 2) := by decide +kernel
theorem dX7_copy_99 : decode cX7_copy 99 = .ok (.iload 5, 2) := by decide +kernel
theorem dX7_copy_101 : decode cX7_copy 101 = .ok (.invokevirtual 260, 3) := by decide +kernel
theorem dX7_copy_104 : decode cX7_copy 104 = .ok (.ifCond .ne 9, 3) := by decide +kernel
theorem dX7_copy_107 : decode cX7_copy 107 = .ok (.aload_n 0, 1) := by decide +kernel
theorem dX7_copy_108 : decode cX7_copy 108 = .ok (.iconst 2, 1) := by decide +kernel
theorem dX7_copy_109 : decode cX7_copy 109 = .ok (.invokevirtual 195, 3) := by decide +kernel
theorem dX7_copy_112 : decode cX7_copy 112 = .ok (.ireturn, 1) := by decide +kernel
theorem dX7_copy_113 : decode cX7_copy 113 = .ok (.aload_n 0, 1) := by decide +kernel
theorem dX7_copy_114 : decode cX7_copy 114 = .ok (.getfield 54, 3) := by decide +kernel
theorem dX7_copy_117 : decode cX7_copy 117 = .ok (.iload_n 1, 1) := by decide +kernel
theorem dX7_copy_118 : decode cX7_copy 118 = .ok (.aaload, 1) := by decide +kernel
theorem dX7_copy_119 : decode cX7_copy 119 = .ok (.getfield 198, 3) := by decide +kernel
theorem dX7_copy_122 : decode cX7_copy 122 = .ok (.iload_n 2, 1) := by decide +kernel
theorem dX7_copy_123 : decode cX7_copy 123 = .ok (.aload_n 0, 1) := by decide +kernel
theorem dX7_copy_124 : decode cX7_copy 124 = .ok (.getfield 54, 3) := by decide +kernel
theorem dX7_copy_127 : decode cX7_copy 127 = .ok (.iload_n 3, 1) := by decide +kernel
theorem dX7_copy_128 : decode cX7_copy 128 = .ok (.aaload, 1) := by decide +kernel
theorem dX7_copy_129 : decode cX7_copy 129 = .ok (.getfield 198, 3) := by decide +kernel
theorem dX7_copy_132 : decode cX7_copy 132 = .ok (.iload 4, 2) := by decide +kernel
theorem dX7_copy_134 : decode cX7_copy 134 = .ok (.iload 5, 2) := by decide +kernel
theorem dX7_copy_136 : decode cX7_copy 136 = .ok (.invokestatic 263, 3) := by decide +kernel
theorem dX7_copy_139 : decode cX7_copy 139 = .ok (.iconst 1, 1) := by decide +kernel
theorem dX7_copy_140 : decode cX7_copy 140 = .ok (.ireturn, 1) := by decide +kernel
theorem dX7_write_0 : decode cX7_write 0 = .ok (.iload_n 1, 1) := by decide +kernel
theorem dX7_write_1 : decode cX7_write 1 = .ok (.bipush 10, 2) := by decide +kernel
theorem dX7_write_3 : decode cX7_write 3 = .ok (.invokestatic 70, 3) := by decide +kernel
theorem dX7_write_6 : decode cX7_write 6 = .ok (.ifCond .ne 11, 3) := by decide +kernel
theorem dX7_write_9 : decode cX7_write 9 = .ok (.iload_n 2, 1) := by decide +kernel
theorem dX7_write_10 : decode cX7_write 10 = .ok (.iconst 4, 1) := by decide +kernel
theorem dX7_write_11 : decode cX7_write 11 = .ok (.invokestatic 70, 3) := by decide +kernel
theorem dX7_write_14 : decode cX7_write 14 = .ok (.ifCond .eq 6, 3) := by decide +kernel
theorem dX7_write_17 : decode cX7_write 17 = .ok (.bipush (-2), 2) := by decide +kernel
theorem dX7_write_19 : decode cX7_write 19 = .ok (.ireturn, 1) := by decide +kernel
theorem dX7_write_20 : decode cX7_write 20 = .ok (.aload_n 0, 1) := by decide +kernel
theorem dX7_write_21 : decode cX7_write 21 = .ok (.getfield 54, 3) := by decide +kernel
theorem dX7_write_24 : decode cX7_write 24 = .ok (.iload_n 2, 1) := by decide +kernel
theorem dX7_write_25 : decode cX7_write 25 = .ok (.aaload, 1) := by decide +kernel
theorem dX7_write_26 : decode cX7_write 26 = .ok (.invokevirtual 192, 3) := by decide +kernel
theorem dX7_write_29 : decode cX7_write 29 = .ok (.ifCond .eq 9, 3) := by decide +kernel
theorem dX7_write_32 : decode cX7_write 32 = .ok (.aload_n 0, 1) := by decide +kernel
theorem dX7_write_33 : decode cX7_write 33 = .ok (.iconst 1, 1) := by decide +kernel
theorem dX7_write_34 : decode cX7_write 34 = .ok (.invokevirtual 195, 3) := by decide +kernel
theorem dX7_write_37 : decode cX7_write 37 = .ok (.ireturn, 1) := by decide +kernel
theorem dX7_write_38 : decode cX7_write 38 = .ok (.aload_n 0, 1) := by decide +kernel
theorem dX7_write_39 : decode cX7_write 39 = .ok (.getfield 30, 3) := by decide +kernel
theorem dX7_write_42 : decode cX7_write 42 = .ok (.iload_n 1, 1) := by decide +kernel
theorem dX7_write_43 : decode cX7_write 43 = .ok (.invokevirtual 127, 3) := by decide +kernel
theorem dX7_write_46 : decode cX7_write 46 = .ok (.astore_n 3, 1) := by decide +kernel
theorem dX7_write_47 : decode cX7_write 47 = .ok (.aload_n 0, 1) := by decide +kernel
theorem dX7_write_48 : decode cX7_write 48 = .ok (.getfield 54, 3) := by decide +kernel
theorem dX7_write_51 : decode cX7_write 51 = .ok (.iload_n 2, 1) := by decide +kernel
theorem dX7_write_52 : decode cX7_write 52 = .ok (.aaload, 1) := by decide +kernel
theorem dX7_write_53 : decode cX7_write 53 = .ok (.getfield 201, 3) := by decide +kernel
theorem dX7_write_56 : decode cX7_write 56 = .ok (.aload_n 3, 1) := by decide +kernel
theorem dX7_write_57 : decode cX7_write 57 = .ok (.getfield 131, 3) := by decide +kernel
theorem dX7_write_60 : decode cX7_write 60 = .ok (.invokestatic 269, 3) := by decide +kernel
theorem dX7_write_63 : decode cX7_write 63 = .ok (.istore 4, 2) := by decide +kernel
theorem dX7_write_65 : decode cX7_write 65 = .ok (.iconst 0, 1) := by decide +kernel
theorem dX7_write_66 : decode cX7_write 66 = .ok (.istore 5, 2) := by decide +kernel
theorem dX7_write_68 : decode cX7_write 68 = .ok (.iload 5, 2) := by decide +kernel
theorem dX7_write_70 : decode cX7_write 70 = .ok (.iload 4, 2) := by decide +kernel
theorem dX7_write_72 : decode cX7_write 72 = .ok (.if_icmp .ge 27, 3) := by decide +kernel
theorem dX7_write_75 : decode cX7_write 75 = .ok (.aload_n 0, 1) := by decide +kernel
theorem dX7_write_76 : decode cX7_write 76 = .ok (.getfield 54, 3) := by decide +kernel
theorem dX7_write_79 : decode cX7_write 79 = .ok (.iload_n 2, 1) := by decide +kernel
theorem dX7_write_80 : decode cX7_write 80 = .ok (.aaload, 1) := by decide +kernel
theorem dX7_write_81 : decode cX7_write 81 = .ok (.iload 5, 2) := by decide +kernel
theorem dX7_write_83 : decode cX7_write 83 = .ok (.aload_n 3, 1) := by decide +kernel
theorem dX7_write_84 : decode cX7_write 84 = .ok (.getfield 134, 3) := by decide +kernel
theorem dX7_write_87 : decode cX7_write 87 = .ok (.iload 5, 2) := by decide +kernel
theorem dX7_write_89 : decode cX7_write 89 = .ok (.iaload, 1) := by decide +kernel
theorem dX7_write_90 : decode cX7_write 90 = .ok (.invokevirtual 253, 3) := by decide +kernel
theorem dX7_write_93 : decode cX7_write 93 = .ok (.iinc 5 1, 3) := by decide +kernel
theorem dX7_write_96 : decode cX7_write 96 = .ok (.goto (-28), 3) := by decide +kernel
theorem dX7_write_99 : decode cX7_write 99 = .ok (.iload 4, 2) := by decide +kernel
theorem dX7_write_101 : decode cX7_write 101 = .ok (.ireturn, 1) := by decide +kernel
theorem dX7_count_0 : decode cX7_count 0 = .ok (.iload_n 1, 1) := by decide +kernel
theorem dX7_count_1 : decode cX7_count 1 = .ok (.tableswitch 127 0 8 #[51, 59, 70, 80, 90, 98, 106, 114, 122], 51) := by decide +kernel
theorem dX7_count_52 : decode cX7_count 52 = .ok (.aload_n 0, 1) := by decide +kernel
theorem dX7_count_53 : decode cX7_count 53 = .ok (.getfield 21, 3) := by decide +kernel
theorem dX7_count_56 : decode cX7_count 56 = .ok (.getfield 92, 3) := by decide +kernel
theorem dX7_count_59 : decode cX7_count 59 = .ok (.ireturn, 1) := by decide +kernel
theorem dX7_count_60 : decode cX7_count 60 = .ok (.aload_n 0, 1) := by decide +kernel
theorem dX7_count_61 : decode cX7_count 61 = .ok (.getfield 21, 3) := by decide +kernel
theorem dX7_count_64 : decode cX7_count 64 = .ok (.getfield 274, 3) := by decide +kernel
theorem dX7_count_67 : decode cX7_count 67 = .ok (.getfield 131, 3) := by decide +kernel
theorem dX7_count_70 : decode cX7_count 70 = .ok (.ireturn, 1) := by decide +kernel
theorem dX7_count_71 : decode cX7_count 71 = .ok (.aload_n 0, 1) := by decide +kernel
theorem dX7_count_72 : decode cX7_count 72 = .ok (.getfield 14, 3) := by decide +kernel
theorem dX7_count_75 : decode cX7_count 75 = .ok (.iconst 0, 1) := by decide +kernel
theorem dX7_count_76 : decode cX7_count 76 = .ok (.aaload, 1) := by decide +kernel
theorem dX7_count_77 : decode cX7_count 77 = .ok (.getfield 81, 3) := by decide +kernel
theorem dX7_count_80 : decode cX7_count 80 = .ok (.ireturn, 1) := by decide +kernel
theorem dX7_count_81 : decode cX7_count 81 = .ok (.aload_n 0, 1) := by decide +kernel
theorem dX7_count_82 : decode cX7_count 82 = .ok (.getfield 14, 3) := by decide +kernel
theorem dX7_count_85 : decode cX7_count 85 = .ok (.iconst 1, 1) := by decide +kernel
theorem dX7_count_86 : decode cX7_count 86 = .ok (.aaload, 1) := by decide +kernel
theorem dX7_count_87 : decode cX7_count 87 = .ok (.getfield 81, 3) := by decide +kernel
theorem dX7_count_90 : decode cX7_count 90 = .ok (.ireturn, 1) := by decide +kernel
theorem dX7_count_91 : decode cX7_count 91 = .ok (.aload_n 0, 1) := by decide +kernel
theorem dX7_count_92 : decode cX7_count 92 = .ok (.getfield 30, 3) := by decide +kernel
theorem dX7_count_95 : decode cX7_count 95 = .ok (.getfield 275, 3) := by decide +kernel
theorem dX7_count_98 : decode cX7_count 98 = .ok (.ireturn, 1) := by decide +kernel
theorem dX7_count_99 : decode cX7_count 99 = .ok (.aload_n 0, 1) := by decide +kernel
theorem dX7_count_100 : decode cX7_count 100 = .ok (.getfield 30, 3) := by decide +kernel
theorem dX7_count_103 : decode cX7_count 103 = .ok (.invokevirtual 168, 3) := by decide +kernel
theorem dX7_count_106 : decode cX7_count 106 = .ok (.ireturn, 1) := by decide +kernel
theorem dX7_count_107 : decode cX7_count 107 = .ok (.aload_n 0, 1) := by decide +kernel
theorem dX7_count_108 : decode cX7_count 108 = .ok (.getfield 21, 3) := by decide +kernel
theorem dX7_count_111 : decode cX7_count 111 = .ok (.getfield 229, 3) := by decide +kernel
theorem dX7_count_114 : decode cX7_count 114 = .ok (.ireturn, 1) := by decide +kernel
theorem dX7_count_115 : decode cX7_count 115 = .ok (.aload_n 0, 1) := by decide +kernel
theorem dX7_count_116 : decode cX7_count 116 = .ok (.getfield 47, 3) := by decide +kernel
theorem dX7_count_119 : decode cX7_count 119 = .ok (.getfield 191, 3) := by decide +kernel
theorem dX7_count_122 : decode cX7_count 122 = .ok (.ireturn, 1) := by decide +kernel
theorem dX7_count_123 : decode cX7_count 123 = .ok (.aload_n 0, 1) := by decide +kernel
theorem dX7_count_124 : decode cX7_count 124 = .ok (.getfield 278, 3) := by decide +kernel
theorem dX7_count_127 : decode cX7_count 127 = .ok (.ireturn, 1) := by decide +kernel
theorem dX7_count_128 : decode cX7_count 128 = .ok (.bipush (-2), 2) := by decide +kernel
theorem dX7_count_130 : decode cX7_count 130 = .ok (.ireturn, 1) := by decide +kernel
theorem dX7_digest_0 : decode cX7_digest 0 = .ok (.ldc2_w 281, 3) := by decide +kernel
theorem dX7_digest_3 : decode cX7_digest 3 = .ok (.lstore_n 1, 1) := by decide +kernel
theorem dX7_digest_4 : decode cX7_digest 4 = .ok (.iconst 0, 1) := by decide +kernel
theorem dX7_digest_5 : decode cX7_digest 5 = .ok (.istore_n 3, 1) := by decide +kernel
theorem dX7_digest_6 : decode cX7_digest 6 = .ok (.iload_n 3, 1) := by decide +kernel
theorem dX7_digest_7 : decode cX7_digest 7 = .ok (.bipush 8, 2) := by decide +kernel
theorem dX7_digest_9 : decode cX7_digest 9 = .ok (.if_icmp .ge 20, 3) := by decide +kernel
theorem dX7_digest_12 : decode cX7_digest 12 = .ok (.lload_n 1, 1) := by decide +kernel
theorem dX7_digest_13 : decode cX7_digest 13 = .ok (.aload_n 0, 1) := by decide +kernel
theorem dX7_digest_14 : decode cX7_digest 14 = .ok (.iload_n 3, 1) := by decide +kernel
theorem dX7_digest_15 : decode cX7_digest 15 = .ok (.invokevirtual 283, 3) := by decide +kernel
theorem dX7_digest_18 : decode cX7_digest 18 = .ok (.i2l, 1) := by decide +kernel
theorem dX7_digest_19 : decode cX7_digest 19 = .ok (.invokestatic 286, 3) := by decide +kernel
theorem dX7_digest_22 : decode cX7_digest 22 = .ok (.lstore_n 1, 1) := by decide +kernel
theorem dX7_digest_23 : decode cX7_digest 23 = .ok (.iinc 3 1, 3) := by decide +kernel
theorem dX7_digest_26 : decode cX7_digest 26 = .ok (.goto (-20), 3) := by decide +kernel
theorem dX7_digest_29 : decode cX7_digest 29 = .ok (.lload_n 1, 1) := by decide +kernel
theorem dX7_digest_30 : decode cX7_digest 30 = .ok (.aload_n 0, 1) := by decide +kernel
theorem dX7_digest_31 : decode cX7_digest 31 = .ok (.iconst 0, 1) := by decide +kernel
theorem dX7_digest_32 : decode cX7_digest 32 = .ok (.invokevirtual 290, 3) := by decide +kernel
theorem dX7_digest_35 : decode cX7_digest 35 = .ok (.i2l, 1) := by decide +kernel
theorem dX7_digest_36 : decode cX7_digest 36 = .ok (.invokestatic 286, 3) := by decide +kernel
theorem dX7_digest_39 : decode cX7_digest 39 = .ok (.aload_n 0, 1) := by decide +kernel
theorem dX7_digest_40 : decode cX7_digest 40 = .ok (.iconst 1, 1) := by decide +kernel
theorem dX7_digest_41 : decode cX7_digest 41 = .ok (.invokevirtual 290, 3) := by decide +kernel
theorem dX7_digest_44 : decode cX7_digest 44 = .ok (.i2l, 1) := by decide +kernel
theorem dX7_digest_45 : decode cX7_digest 45 = .ok (.invokestatic 286, 3) := by decide +kernel
theorem dX7_digest_48 : decode cX7_digest 48 = .ok (.lstore_n 1, 1) := by decide +kernel
theorem dX7_digest_49 : decode cX7_digest 49 = .ok (.iconst 0, 1) := by decide +kernel
theorem dX7_digest_50 : decode cX7_digest 50 = .ok (.istore_n 3, 1) := by decide +kernel
theorem dX7_digest_51 : decode cX7_digest 51 = .ok (.iload_n 3, 1) := by decide +kernel
theorem dX7_digest_52 : decode cX7_digest 52 = .ok (.aload_n 0, 1) := by decide +kernel
theorem dX7_digest_53 : decode cX7_digest 53 = .ok (.getfield 21, 3) := by decide +kernel
theorem dX7_digest_56 : decode cX7_digest 56 = .ok (.getfield 92, 3) := by decide +kernel
theorem dX7_digest_59 : decode cX7_digest 59 = .ok (.if_icmp .ge 135, 3) := by decide +kernel
theorem dX7_digest_62 : decode cX7_digest 62 = .ok (.iconst 0, 1) := by decide +kernel
theorem dX7_digest_63 : decode cX7_digest 63 = .ok (.istore 4, 2) := by decide +kernel
theorem dX7_digest_65 : decode cX7_digest 65 = .ok (.iload 4, 2) := by decide +kernel
theorem dX7_digest_67 : decode cX7_digest 67 = .ok (.iconst 4, 1) := by decide +kernel
theorem dX7_digest_68 : decode cX7_digest 68 = .ok (.if_icmp .ge 22, 3) := by decide +kernel
theorem dX7_digest_71 : decode cX7_digest 71 = .ok (.lload_n 1, 1) := by decide +kernel
theorem dX7_digest_72 : decode cX7_digest 72 = .ok (.aload_n 0, 1) := by decide +kernel
theorem dX7_digest_73 : decode cX7_digest 73 = .ok (.iload_n 3, 1) := by decide +kernel
theorem dX7_digest_74 : decode cX7_digest 74 = .ok (.iload 4, 2) := by decide +kernel
theorem dX7_digest_76 : decode cX7_digest 76 = .ok (.invokevirtual 293, 3) := by decide +kernel
theorem dX7_digest_79 : decode cX7_digest 79 = .ok (.i2l, 1) := by decide +kernel
theorem dX7_digest_80 : decode cX7_digest 80 = .ok (.invokestatic 286, 3) := by decide +kernel
theorem dX7_digest_83 : decode cX7_digest 83 = .ok (.lstore_n 1, 1) := by decide +kernel
theorem dX7_digest_84 : decode cX7_digest 84 = .ok (.iinc 4 1, 3) := by decide +kernel
theorem dX7_digest_87 : decode cX7_digest 87 = .ok (.goto (-22), 3) := by decide +kernel
theorem dX7_digest_90 : decode cX7_digest 90 = .ok (.lload_n 1, 1) := by decide +kernel
theorem dX7_digest_91 : decode cX7_digest 91 = .ok (.aload_n 0, 1) := by decide +kernel
theorem dX7_digest_92 : decode cX7_digest 92 = .ok (.iconst 0, 1) := by decide +kernel
theorem dX7_digest_93 : decode cX7_digest 93 = .ok (.iload_n 3, 1) := by decide +kernel
theorem dX7_digest_94 : decode cX7_digest 94 = .ok (.invokevirtual 296, 3) := by decide +kernel
theorem dX7_digest_97 : decode cX7_digest 97 = .ok (.i2l, 1) := by decide +kernel
theorem dX7_digest_98 : decode cX7_digest 98 = .ok (.invokestatic 286, 3) := by decide +kernel
theorem dX7_digest_101 : decode cX7_digest 101 = .ok (.aload_n 0, 1) := by decide +kernel
theorem dX7_digest_102 : decode cX7_digest 102 = .ok (.bipush 9, 2) := by decide +kernel
theorem dX7_digest_104 : decode cX7_digest 104 = .ok (.iload_n 3, 1) := by decide +kernel
theorem dX7_digest_105 : decode cX7_digest 105 = .ok (.invokevirtual 296, 3) := by decide +kernel
theorem dX7_digest_108 : decode cX7_digest 108 = .ok (.i2l, 1) := by decide +kernel
theorem dX7_digest_109 : decode cX7_digest 109 = .ok (.invokestatic 286, 3) := by decide +kernel
theorem dX7_digest_112 : decode cX7_digest 112 = .ok (.aload_n 0, 1) := by decide +kernel
theorem dX7_digest_113 : decode cX7_digest 113 = .ok (.bipush 9, 2) := by decide +kernel
theorem dX7_digest_115 : decode cX7_digest 115 = .ok (.iload_n 3, 1) := by decide +kernel
theorem dX7_digest_116 : decode cX7_digest 116 = .ok (.invokevirtual 298, 3) := by decide +kernel
theorem dX7_digest_119 : decode cX7_digest 119 = .ok (.i2l, 1) := by decide +kernel
theorem dX7_digest_120 : decode cX7_digest 120 = .ok (.invokestatic 286, 3) := by decide +kernel
theorem dX7_digest_123 : decode cX7_digest 123 = .ok (.aload_n 0, 1) := by decide +kernel
theorem dX7_digest_124 : decode cX7_digest 124 = .ok (.iload_n 3, 1) := by decide +kernel
theorem dX7_digest_125 : decode cX7_digest 125 = .ok (.invokevirtual 301, 3) := by decide +kernel
theorem dX7_digest_128 : decode cX7_digest 128 = .ok (.i2l, 1) := by decide +kernel
theorem dX7_digest_129 : decode cX7_digest 129 = .ok (.invokestatic 286, 3) := by decide +kernel
theorem dX7_digest_132 : decode cX7_digest 132 = .ok (.lstore_n 1, 1) := by decide +kernel
theorem dX7_digest_133 : decode cX7_digest 133 = .ok (.lload_n 1, 1) := by decide +kernel
theorem dX7_digest_134 : decode cX7_digest 134 = .ok (.aload_n 0, 1) := by decide +kernel
theorem dX7_digest_135 : decode cX7_digest 135 = .ok (.iload_n 3, 1) := by decide +kernel
theorem dX7_digest_136 : decode cX7_digest 136 = .ok (.iconst 0, 1) := by decide +kernel
theorem dX7_digest_137 : decode cX7_digest 137 = .ok (.invokevirtual 304, 3) := by decide +kernel
theorem dX7_digest_140 : decode cX7_digest 140 = .ok (.i2l, 1) := by decide +kernel
theorem dX7_digest_141 : decode cX7_digest 141 = .ok (.invokestatic 286, 3) := by decide +kernel
theorem dX7_digest_144 : decode cX7_digest 144 = .ok (.aload_n 0, 1) := by decide +kernel
theorem dX7_digest_145 : decode cX7_digest 145 = .ok (.iload_n 3, 1) := by decide +kernel
theorem dX7_digest_146 : decode cX7_digest 146 = .ok (.iconst 1, 1) := by decide +kernel
theorem dX7_digest_147 : decode cX7_digest 147 = .ok (.invokevirtual 304, 3) := by decide +kernel
theorem dX7_digest_150 : decode cX7_digest 150 = .ok (.i2l, 1) := by decide +kernel
theorem dX7_digest_151 : decode cX7_digest 151 = .ok (.invokestatic 286, 3) := by decide +kernel
theorem dX7_digest_154 : decode cX7_digest 154 = .ok (.aload_n 0, 1) := by decide +kernel
theorem dX7_digest_155 : decode cX7_digest 155 = .ok (.iload_n 3, 1) := by decide +kernel
theorem dX7_digest_156 : decode cX7_digest 156 = .ok (.invokevirtual 307, 3) := by decide +kernel
theorem dX7_digest_159 : decode cX7_digest 159 = .ok (.i2l, 1) := by decide +kernel
theorem dX7_digest_160 : decode cX7_digest 160 = .ok (.invokestatic 286, 3) := by decide +kernel
theorem dX7_digest_163 : decode cX7_digest 163 = .ok (.lstore_n 1, 1) := by decide +kernel
theorem dX7_digest_164 : decode cX7_digest 164 = .ok (.lload_n 1, 1) := by decide +kernel
theorem dX7_digest_165 : decode cX7_digest 165 = .ok (.aload_n 0, 1) := by decide +kernel
theorem dX7_digest_166 : decode cX7_digest 166 = .ok (.iconst 5, 1) := by decide +kernel
theorem dX7_digest_167 : decode cX7_digest 167 = .ok (.iconst 3, 1) := by decide +kernel
theorem dX7_digest_168 : decode cX7_digest 168 = .ok (.iload_n 3, 1) := by decide +kernel
theorem dX7_digest_169 : decode cX7_digest 169 = .ok (.iconst 0, 1) := by decide +kernel
theorem dX7_digest_170 : decode cX7_digest 170 = .ok (.invokevirtual 310, 3) := by decide +kernel
theorem dX7_digest_173 : decode cX7_digest 173 = .ok (.invokestatic 286, 3) := by decide +kernel
theorem dX7_digest_176 : decode cX7_digest 176 = .ok (.aload_n 0, 1) := by decide +kernel
theorem dX7_digest_177 : decode cX7_digest 177 = .ok (.iconst 5, 1) := by decide +kernel
theorem dX7_digest_178 : decode cX7_digest 178 = .ok (.iconst 3, 1) := by decide +kernel
theorem dX7_digest_179 : decode cX7_digest 179 = .ok (.iload_n 3, 1) := by decide +kernel
theorem dX7_digest_180 : decode cX7_digest 180 = .ok (.iconst 1, 1) := by decide +kernel
theorem dX7_digest_181 : decode cX7_digest 181 = .ok (.invokevirtual 310, 3) := by decide +kernel
theorem dX7_digest_184 : decode cX7_digest 184 = .ok (.invokestatic 286, 3) := by decide +kernel
theorem dX7_digest_187 : decode cX7_digest 187 = .ok (.lstore_n 1, 1) := by decide +kernel
theorem dX7_digest_188 : decode cX7_digest 188 = .ok (.iinc 3 1, 3) := by decide +kernel
theorem dX7_digest_191 : decode cX7_digest 191 = .ok (.goto (-140), 3) := by decide +kernel
theorem dX7_digest_194 : decode cX7_digest 194 = .ok (.iconst 0, 1) := by decide +kernel
theorem dX7_digest_195 : decode cX7_digest 195 = .ok (.istore_n 3, 1) := by decide +kernel
theorem dX7_digest_196 : decode cX7_digest 196 = .ok (.iload_n 3, 1) := by decide +kernel
theorem dX7_digest_197 : decode cX7_digest 197 = .ok (.iconst 3, 1) := by decide +kernel
theorem dX7_digest_198 : decode cX7_digest 198 = .ok (.if_icmp .ge 74, 3) := by decide +kernel
theorem dX7_digest_201 : decode cX7_digest 201 = .ok (.iload_n 3, 1) := by decide +kernel
theorem dX7_digest_202 : decode cX7_digest 202 = .ok (.ifCond .ne 7, 3) := by decide +kernel
theorem dX7_digest_205 : decode cX7_digest 205 = .ok (.iconst 0, 1) := by decide +kernel
theorem dX7_digest_206 : decode cX7_digest 206 = .ok (.goto 14, 3) := by decide +kernel
theorem dX7_digest_209 : decode cX7_digest 209 = .ok (.iload_n 3, 1) := by decide +kernel
theorem dX7_digest_210 : decode cX7_digest 210 = .ok (.iconst 1, 1) := by decide +kernel
theorem dX7_digest_211 : decode cX7_digest 211 = .ok (.if_icmp .ne 7, 3) := by decide +kernel
theorem dX7_digest_214 : decode cX7_digest 214 = .ok (.iconst 4, 1) := by decide +kernel
theorem dX7_digest_215 : decode cX7_digest 215 = .ok (.goto 5, 3) := by decide +kernel
theorem dX7_digest_218 : decode cX7_digest 218 = .ok (.bipush 9, 2) := by decide +kernel
theorem dX7_digest_220 : decode cX7_digest 220 = .ok (.istore 4, 2) := by decide +kernel
theorem dX7_digest_222 : decode cX7_digest 222 = .ok (.lload_n 1, 1) := by decide +kernel
theorem dX7_digest_223 : decode cX7_digest 223 = .ok (.aload_n 0, 1) := by decide +kernel
theorem dX7_digest_224 : decode cX7_digest 224 = .ok (.iload 4, 2) := by decide +kernel
theorem dX7_digest_226 : decode cX7_digest 226 = .ok (.invokevirtual 314, 3) := by decide +kernel
theorem dX7_digest_229 : decode cX7_digest 229 = .ok (.i2l, 1) := by decide +kernel
theorem dX7_digest_230 : decode cX7_digest 230 = .ok (.invokestatic 286, 3) := by decide +kernel
theorem dX7_digest_233 : decode cX7_digest 233 = .ok (.aload_n 0, 1) := by decide +kernel
theorem dX7_digest_234 : decode cX7_digest 234 = .ok (.iload 4, 2) := by decide +kernel
theorem dX7_digest_236 : decode cX7_digest 236 = .ok (.iconst (-1), 1) := by decide +kernel
theorem dX7_digest_237 : decode cX7_digest 237 = .ok (.invokevirtual 317, 3) := by decide +kernel
theorem dX7_digest_240 : decode cX7_digest 240 = .ok (.i2l, 1) := by decide +kernel
theorem dX7_digest_241 : decode cX7_digest 241 = .ok (.invokestatic 286, 3) := by decide +kernel
theorem dX7_digest_244 : decode cX7_digest 244 = .ok (.aload_n 0, 1) := by decide +kernel
theorem dX7_digest_245 : decode cX7_digest 245 = .ok (.iload 4, 2) := by decide +kernel
theorem dX7_digest_247 : decode cX7_digest 247 = .ok (.iconst 0, 1) := by decide +kernel
theorem dX7_digest_248 : decode cX7_digest 248 = .ok (.invokevirtual 317, 3) := by decide +kernel
theorem dX7_digest_251 : decode cX7_digest 251 = .ok (.i2l, 1) := by decide +kernel
theorem dX7_digest_252 : decode cX7_digest 252 = .ok (.invokestatic 286, 3) := by decide +kernel
theorem dX7_digest_255 : decode cX7_digest 255 = .ok (.aload_n 0, 1) := by decide +kernel
theorem dX7_digest_256 : decode cX7_digest 256 = .ok (.iload 4, 2) := by decide +kernel
theorem dX7_digest_258 : decode cX7_digest 258 = .ok (.invokevirtual 319, 3) := by decide +kernel
theorem dX7_digest_261 : decode cX7_digest 261 = .ok (.i2l, 1) := by decide +kernel
theorem dX7_digest_262 : decode cX7_digest 262 = .ok (.invokestatic 286, 3) := by decide +kernel
theorem dX7_digest_265 : decode cX7_digest 265 = .ok (.lstore_n 1, 1) := by decide +kernel
theorem dX7_digest_266 : decode cX7_digest 266 = .ok (.iinc 3 1, 3) := by decide +kernel
theorem dX7_digest_269 : decode cX7_digest 269 = .ok (.goto (-73), 3) := by decide +kernel
theorem dX7_digest_272 : decode cX7_digest 272 = .ok (.iconst 0, 1) := by decide +kernel
theorem dX7_digest_273 : decode cX7_digest 273 = .ok (.istore_n 3, 1) := by decide +kernel
theorem dX7_digest_274 : decode cX7_digest 274 = .ok (.iload_n 3, 1) := by decide +kernel
theorem dX7_digest_275 : decode cX7_digest 275 = .ok (.iconst 3, 1) := by decide +kernel
theorem dX7_digest_276 : decode cX7_digest 276 = .ok (.if_icmp .ge 20, 3) := by decide +kernel
theorem dX7_digest_279 : decode cX7_digest 279 = .ok (.lload_n 1, 1) := by decide +kernel
theorem dX7_digest_280 : decode cX7_digest 280 = .ok (.aload_n 0, 1) := by decide +kernel
theorem dX7_digest_281 : decode cX7_digest 281 = .ok (.iload_n 3, 1) := by decide +kernel
theorem dX7_digest_282 : decode cX7_digest 282 = .ok (.invokevirtual 322, 3) := by decide +kernel
theorem dX7_digest_285 : decode cX7_digest 285 = .ok (.i2l, 1) := by decide +kernel
theorem dX7_digest_286 : decode cX7_digest 286 = .ok (.invokestatic 286, 3) := by decide +kernel
theorem dX7_digest_289 : decode cX7_digest 289 = .ok (.lstore_n 1, 1) := by decide +kernel
theorem dX7_digest_290 : decode cX7_digest 290 = .ok (.iinc 3 1, 3) := by decide +kernel
theorem dX7_digest_293 : decode cX7_digest 293 = .ok (.goto (-19), 3) := by decide +kernel
theorem dX7_digest_296 : decode cX7_digest 296 = .ok (.lload_n 1, 1) := by decide +kernel
theorem dX7_digest_297 : decode cX7_digest 297 = .ok (.aload_n 0, 1) := by decide +kernel
theorem dX7_digest_298 : decode cX7_digest 298 = .ok (.invokevirtual 325, 3) := by decide +kernel
theorem dX7_digest_301 : decode cX7_digest 301 = .ok (.i2l, 1) := by decide +kernel
theorem dX7_digest_302 : decode cX7_digest 302 = .ok (.invokestatic 286, 3) := by decide +kernel
theorem dX7_digest_305 : decode cX7_digest 305 = .ok (.aload_n 0, 1) := by decide +kernel
theorem dX7_digest_306 : decode cX7_digest 306 = .ok (.iconst 0, 1) := by decide +kernel
theorem dX7_digest_307 : decode cX7_digest 307 = .ok (.invokevirtual 328, 3) := by decide +kernel
theorem dX7_digest_310 : decode cX7_digest 310 = .ok (.i2l, 1) := by decide +kernel
theorem dX7_digest_311 : decode cX7_digest 311 = .ok (.invokestatic 286, 3) := by decide +kernel
theorem dX7_digest_314 : decode cX7_digest 314 = .ok (.aload_n 0, 1) := by decide +kernel
theorem dX7_digest_315 : decode cX7_digest 315 = .ok (.iconst 1, 1) := by decide +kernel
theorem dX7_digest_316 : decode cX7_digest 316 = .ok (.invokevirtual 328, 3) := by decide +kernel
theorem dX7_digest_319 : decode cX7_digest 319 = .ok (.i2l, 1) := by decide +kernel
theorem dX7_digest_320 : decode cX7_digest 320 = .ok (.invokestatic 286, 3) := by decide +kernel
theorem dX7_digest_323 : decode cX7_digest 323 = .ok (.lstore_n 1, 1) := by decide +kernel
theorem dX7_digest_324 : decode cX7_digest 324 = .ok (.lload_n 1, 1) := by decide +kernel
theorem dX7_digest_325 : decode cX7_digest 325 = .ok (.aload_n 0, 1) := by decide +kernel
theorem dX7_digest_326 : decode cX7_digest 326 = .ok (.iconst 0, 1) := by decide +kernel
theorem dX7_digest_327 : decode cX7_digest 327 = .ok (.invokevirtual 331, 3) := by decide +kernel
theorem dX7_digest_330 : decode cX7_digest 330 = .ok (.i2l, 1) := by decide +kernel
theorem dX7_digest_331 : decode cX7_digest 331 = .ok (.invokestatic 286, 3) := by decide +kernel
theorem dX7_digest_334 : decode cX7_digest 334 = .ok (.aload_n 0, 1) := by decide +kernel
theorem dX7_digest_335 : decode cX7_digest 335 = .ok (.iconst 1, 1) := by decide +kernel
theorem dX7_digest_336 : decode cX7_digest 336 = .ok (.invokevirtual 331, 3) := by decide +kernel
theorem dX7_digest_339 : decode cX7_digest 339 = .ok (.i2l, 1) := by decide +kernel
theorem dX7_digest_340 : decode cX7_digest 340 = .ok (.invokestatic 286, 3) := by decide +kernel
theorem dX7_digest_343 : decode cX7_digest 343 = .ok (.aload_n 0, 1) := by decide +kernel
theorem dX7_digest_344 : decode cX7_digest 344 = .ok (.iconst 0, 1) := by decide +kernel
theorem dX7_digest_345 : decode cX7_digest 345 = .ok (.invokevirtual 334, 3) := by decide +kernel
theorem dX7_digest_348 : decode cX7_digest 348 = .ok (.i2l, 1) := by decide +kernel
theorem dX7_digest_349 : decode cX7_digest 349 = .ok (.invokestatic 286, 3) := by decide +kernel
theorem dX7_digest_352 : decode cX7_digest 352 = .ok (.aload_n 0, 1) := by decide +kernel
theorem dX7_digest_353 : decode cX7_digest 353 = .ok (.iconst 1, 1) := by decide +kernel
theorem dX7_digest_354 : decode cX7_digest 354 = .ok (.invokevirtual 334, 3) := by decide +kernel
theorem dX7_digest_357 : decode cX7_digest 357 = .ok (.i2l, 1) := by decide +kernel
theorem dX7_digest_358 : decode cX7_digest 358 = .ok (.invokestatic 286, 3) := by decide +kernel
theorem dX7_digest_361 : decode cX7_digest 361 = .ok (.lstore_n 1, 1) := by decide +kernel
theorem dX7_digest_362 : decode cX7_digest 362 = .ok (.lload_n 1, 1) := by decide +kernel
theorem dX7_digest_363 : decode cX7_digest 363 = .ok (.aload_n 0, 1) := by decide +kernel
theorem dX7_digest_364 : decode cX7_digest 364 = .ok (.invokevirtual 337, 3) := by decide +kernel
theorem dX7_digest_367 : decode cX7_digest 367 = .ok (.i2l, 1) := by decide +kernel
theorem dX7_digest_368 : decode cX7_digest 368 = .ok (.invokestatic 286, 3) := by decide +kernel
theorem dX7_digest_371 : decode cX7_digest 371 = .ok (.aload_n 0, 1) := by decide +kernel
theorem dX7_digest_372 : decode cX7_digest 372 = .ok (.bipush 7, 2) := by decide +kernel
theorem dX7_digest_374 : decode cX7_digest 374 = .ok (.bipush 9, 2) := by decide +kernel
theorem dX7_digest_376 : decode cX7_digest 376 = .ok (.iconst 0, 1) := by decide +kernel
theorem dX7_digest_377 : decode cX7_digest 377 = .ok (.invokevirtual 340, 3) := by decide +kernel
theorem dX7_digest_380 : decode cX7_digest 380 = .ok (.i2l, 1) := by decide +kernel
theorem dX7_digest_381 : decode cX7_digest 381 = .ok (.invokestatic 286, 3) := by decide +kernel
theorem dX7_digest_384 : decode cX7_digest 384 = .ok (.aload_n 0, 1) := by decide +kernel
theorem dX7_digest_385 : decode cX7_digest 385 = .ok (.bipush 7, 2) := by decide +kernel
theorem dX7_digest_387 : decode cX7_digest 387 = .ok (.bipush 9, 2) := by decide +kernel
theorem dX7_digest_389 : decode cX7_digest 389 = .ok (.iconst 1, 1) := by decide +kernel
theorem dX7_digest_390 : decode cX7_digest 390 = .ok (.invokevirtual 340, 3) := by decide +kernel
theorem dX7_digest_393 : decode cX7_digest 393 = .ok (.i2l, 1) := by decide +kernel
theorem dX7_digest_394 : decode cX7_digest 394 = .ok (.invokestatic 286, 3) := by decide +kernel
theorem dX7_digest_397 : decode cX7_digest 397 = .ok (.lreturn, 1) := by decide +kernel
theorem dX7_isOutside_0 : decode cX7_isOutside 0 = .ok (.iload_n 0, 1) := by decide +kernel
theorem dX7_isOutside_1 : decode cX7_isOutside 1 = .ok (.ifCond .lt 8, 3) := by decide +kernel
theorem dX7_isOutside_4 : decode cX7_isOutside 4 = .ok (.iload_n 0, 1) := by decide +kernel
theorem dX7_isOutside_5 : decode cX7_isOutside 5 = .ok (.iload_n 1, 1) := by decide +kernel
theorem dX7_isOutside_6 : decode cX7_isOutside 6 = .ok (.if_icmp .lt 7, 3) := by decide +kernel
theorem dX7_isOutside_9 : decode cX7_isOutside 9 = .ok (.iconst 1, 1) := by decide +kernel
theorem dX7_isOutside_10 : decode cX7_isOutside 10 = .ok (.goto 4, 3) := by decide +kernel
theorem dX7_isOutside_13 : decode cX7_isOutside 13 = .ok (.iconst 0, 1) := by decide +kernel
theorem dX7_isOutside_14 : decode cX7_isOutside 14 = .ok (.ireturn, 1) := by decide +kernel
theorem dX7_mix_0 : decode cX7_mix 0 = .ok (.ldc2_w 343, 3) := by decide +kernel
theorem dX7_mix_3 : decode cX7_mix 3 = .ok (.lload_n 0, 1) := by decide +kernel
theorem dX7_mix_4 : decode cX7_mix 4 = .ok (.lmul, 1) := by decide +kernel
theorem dX7_mix_5 : decode cX7_mix 5 = .ok (.lload_n 2, 1) := by decide +kernel
theorem dX7_mix_6 : decode cX7_mix 6 = .ok (.ladd, 1) := by decide +kernel
theorem dX7_mix_7 : decode cX7_mix 7 = .ok (.lreturn, 1) := by decide +kernel
theorem dX7_tellAnew_0 : decode cX7_tellAnew 0 = .ok (.aload_n 0, 1) := by decide +kernel
theorem dX7_tellAnew_1 : decode cX7_tellAnew 1 = .ok (.getfield 21, 3) := by decide +kernel
theorem dX7_tellAnew_4 : decode cX7_tellAnew 4 = .ok (.aload_n 0, 1) := by decide +kernel
theorem dX7_tellAnew_5 : decode cX7_tellAnew 5 = .ok (.getfield 14, 3) := by decide +kernel
theorem dX7_tellAnew_8 : decode cX7_tellAnew 8 = .ok (.iconst 0, 1) := by decide +kernel
theorem dX7_tellAnew_9 : decode cX7_tellAnew 9 = .ok (.aaload, 1) := by decide +kernel
theorem dX7_tellAnew_10 : decode cX7_tellAnew 10 = .ok (.invokevirtual 345, 3) := by decide +kernel
theorem dX7_tellAnew_13 : decode cX7_tellAnew 13 = .ok (.aload_n 0, 1) := by decide +kernel
theorem dX7_tellAnew_14 : decode cX7_tellAnew 14 = .ok (.getfield 21, 3) := by decide +kernel
theorem dX7_tellAnew_17 : decode cX7_tellAnew 17 = .ok (.aload_n 0, 1) := by decide +kernel
theorem dX7_tellAnew_18 : decode cX7_tellAnew 18 = .ok (.getfield 14, 3) := by decide +kernel
theorem dX7_tellAnew_21 : decode cX7_tellAnew 21 = .ok (.iconst 1, 1) := by decide +kernel
theorem dX7_tellAnew_22 : decode cX7_tellAnew 22 = .ok (.aaload, 1) := by decide +kernel
theorem dX7_tellAnew_23 : decode cX7_tellAnew 23 = .ok (.invokevirtual 349, 3) := by decide +kernel
theorem dX7_tellAnew_26 : decode cX7_tellAnew 26 = .ok (.aload_n 0, 1) := by decide +kernel
theorem dX7_tellAnew_27 : decode cX7_tellAnew 27 = .ok (.getfield 40, 3) := by decide +kernel
theorem dX7_tellAnew_30 : decode cX7_tellAnew 30 = .ok (.aload_n 0, 1) := by decide +kernel
theorem dX7_tellAnew_31 : decode cX7_tellAnew 31 = .ok (.getfield 21, 3) := by decide +kernel
theorem dX7_tellAnew_34 : decode cX7_tellAnew 34 = .ok (.invokevirtual 352, 3) := by decide +kernel
theorem dX7_tellAnew_37 : decode cX7_tellAnew 37 = .ok (.aload_n 0, 1) := by decide +kernel
theorem dX7_tellAnew_38 : decode cX7_tellAnew 38 = .ok (.getfield 30, 3) := by decide +kernel
theorem dX7_tellAnew_41 : decode cX7_tellAnew 41 = .ok (.invokevirtual 171, 3) := by decide +kernel
theorem dX7_tellAnew_44 : decode cX7_tellAnew 44 = .ok (.aload_n 0, 1) := by decide +kernel
theorem dX7_tellAnew_45 : decode cX7_tellAnew 45 = .ok (.getfield 30, 3) := by decide +kernel
theorem dX7_tellAnew_48 : decode cX7_tellAnew 48 = .ok (.invokevirtual 181, 3) := by decide +kernel
theorem dX7_tellAnew_51 : decode cX7_tellAnew 51 = .ok (.return_, 1) := by decide +kernel
theorem dX7_tellEven_0 : decode cX7_tellEven 0 = .ok (.aload_n 0, 1) := by decide +kernel
theorem dX7_tellEven_1 : decode cX7_tellEven 1 = .ok (.getfield 21, 3) := by decide +kernel
theorem dX7_tellEven_4 : decode cX7_tellEven 4 = .ok (.getfield 354, 3) := by decide +kernel
theorem dX7_tellEven_7 : decode cX7_tellEven 7 = .ok (.istore_n 2, 1) := by decide +kernel
theorem dX7_tellEven_8 : decode cX7_tellEven 8 = .ok (.aload_n 0, 1) := by decide +kernel
theorem dX7_tellEven_9 : decode cX7_tellEven 9 = .ok (.getfield 21, 3) := by decide +kernel
theorem dX7_tellEven_12 : decode cX7_tellEven 12 = .ok (.iload_n 1, 1) := by decide +kernel
theorem dX7_tellEven_13 : decode cX7_tellEven 13 = .ok (.putfield 354, 3) := by decide +kernel
theorem dX7_tellEven_16 : decode cX7_tellEven 16 = .ok (.aload_n 0, 1) := by decide +kernel
theorem dX7_tellEven_17 : decode cX7_tellEven 17 = .ok (.invokevirtual 67, 3) := by decide +kernel
theorem dX7_tellEven_20 : decode cX7_tellEven 20 = .ok (.iload_n 2, 1) := by decide +kernel
theorem dX7_tellEven_21 : decode cX7_tellEven 21 = .ok (.ireturn, 1) := by decide +kernel
theorem dX7_tellChanges_0 : decode cX7_tellChanges 0 = .ok (.aload_n 0, 1) := by decide +kernel
theorem dX7_tellChanges_1 : decode cX7_tellChanges 1 = .ok (.getfield 21, 3) := by decide +kernel
theorem dX7_tellChanges_4 : decode cX7_tellChanges 4 = .ok (.getfield 229, 3) := by decide +kernel
theorem dX7_tellChanges_7 : decode cX7_tellChanges 7 = .ok (.istore_n 2, 1) := by decide +kernel
theorem dX7_tellChanges_8 : decode cX7_tellChanges 8 = .ok (.aload_n 0, 1) := by decide +kernel
theorem dX7_tellChanges_9 : decode cX7_tellChanges 9 = .ok (.getfield 21, 3) := by decide +kernel
theorem dX7_tellChanges_12 : decode cX7_tellChanges 12 = .ok (.iload_n 1, 1) := by decide +kernel
theorem dX7_tellChanges_13 : decode cX7_tellChanges 13 = .ok (.putfield 229, 3) := by decide +kernel
theorem dX7_tellChanges_16 : decode cX7_tellChanges 16 = .ok (.aload_n 0, 1) := by decide +kernel
theorem dX7_tellChanges_17 : decode cX7_tellChanges 17 = .ok (.invokevirtual 67, 3) := by decide +kernel
theorem dX7_tellChanges_20 : decode cX7_tellChanges 20 = .ok (.iload_n 2, 1) := by decide +kernel
theorem dX7_tellChanges_21 : decode cX7_tellChanges 21 = .ok (.ireturn, 1) := by decide +kernel
theorem dX7_tellForgets_0 : decode cX7_tellForgets 0 = .ok (.aload_n 0, 1) := by decide +kernel
theorem dX7_tellForgets_1 : decode cX7_tellForgets 1 = .ok (.getfield 21, 3) := by decide +kernel
theorem dX7_tellForgets_4 : decode cX7_tellForgets 4 = .ok (.getfield 357, 3) := by decide +kernel
theorem dX7_tellForgets_7 : decode cX7_tellForgets 7 = .ok (.istore_n 2, 1) := by decide +kernel
theorem dX7_tellForgets_8 : decode cX7_tellForgets 8 = .ok (.aload_n 0, 1) := by decide +kernel
theorem dX7_tellForgets_9 : decode cX7_tellForgets 9 = .ok (.getfield 21, 3) := by decide +kernel
theorem dX7_tellForgets_12 : decode cX7_tellForgets 12 = .ok (.iload_n 1, 1) := by decide +kernel
theorem dX7_tellForgets_13 : decode cX7_tellForgets 13 = .ok (.putfield 357, 3) := by decide +kernel
theorem dX7_tellForgets_16 : decode cX7_tellForgets 16 = .ok (.aload_n 0, 1) := by decide +kernel
theorem dX7_tellForgets_17 : decode cX7_tellForgets 17 = .ok (.invokevirtual 67, 3) := by decide +kernel
theorem dX7_tellForgets_20 : decode cX7_tellForgets 20 = .ok (.iload_n 2, 1) := by decide +kernel
theorem dX7_tellForgets_21 : decode cX7_tellForgets 21 = .ok (.ireturn, 1) := by decide +kernel
theorem dX7_rideWithEven_0 : decode cX7_rideWithEven 0 = .ok (.aload_n 0, 1) := by decide +kernel
theorem dX7_rideWithEven_1 : decode cX7_rideWithEven 1 = .ok (.getfield 34, 3) := by decide +kernel
theorem dX7_rideWithEven_4 : decode cX7_rideWithEven 4 = .ok (.invokevirtual 171, 3) := by decide +kernel
theorem dX7_rideWithEven_7 : decode cX7_rideWithEven 7 = .ok (.aload_n 0, 1) := by decide +kernel
theorem dX7_rideWithEven_8 : decode cX7_rideWithEven 8 = .ok (.getfield 34, 3) := by decide +kernel
theorem dX7_rideWithEven_11 : decode cX7_rideWithEven 11 = .ok (.iload_n 1, 1) := by decide +kernel
theorem dX7_rideWithEven_12 : decode cX7_rideWithEven 12 = .ok (.putfield 360, 3) := by decide +kernel
theorem dX7_rideWithEven_15 : decode cX7_rideWithEven 15 = .ok (.aload_n 0, 1) := by decide +kernel
theorem dX7_rideWithEven_16 : decode cX7_rideWithEven 16 = .ok (.getfield 34, 3) := by decide +kernel
theorem dX7_rideWithEven_19 : decode cX7_rideWithEven 19 = .ok (.invokevirtual 181, 3) := by decide +kernel
theorem dX7_rideWithEven_22 : decode cX7_rideWithEven 22 = .ok (.return_, 1) := by decide +kernel
theorem dX7_clearAlike_0 : decode cX7_clearAlike 0 = .ok (.iconst 0, 1) := by decide +kernel
theorem dX7_clearAlike_1 : decode cX7_clearAlike 1 = .ok (.istore_n 1, 1) := by decide +kernel
theorem dX7_clearAlike_2 : decode cX7_clearAlike 2 = .ok (.iload_n 1, 1) := by decide +kernel
theorem dX7_clearAlike_3 : decode cX7_clearAlike 3 = .ok (.bipush 8, 2) := by decide +kernel
theorem dX7_clearAlike_5 : decode cX7_clearAlike 5 = .ok (.if_icmp .ge 19, 3) := by decide +kernel
theorem dX7_clearAlike_8 : decode cX7_clearAlike 8 = .ok (.aload_n 0, 1) := by decide +kernel
theorem dX7_clearAlike_9 : decode cX7_clearAlike 9 = .ok (.getfield 60, 3) := by decide +kernel
theorem dX7_clearAlike_12 : decode cX7_clearAlike 12 = .ok (.iload_n 1, 1) := by decide +kernel
theorem dX7_clearAlike_13 : decode cX7_clearAlike 13 = .ok (.aaload, 1) := by decide +kernel
theorem dX7_clearAlike_14 : decode cX7_clearAlike 14 = .ok (.iconst 0, 1) := by decide +kernel
theorem dX7_clearAlike_15 : decode cX7_clearAlike 15 = .ok (.invokestatic 223, 3) := by decide +kernel
theorem dX7_clearAlike_18 : decode cX7_clearAlike 18 = .ok (.iinc 1 1, 3) := by decide +kernel
theorem dX7_clearAlike_21 : decode cX7_clearAlike 21 = .ok (.goto (-19), 3) := by decide +kernel
theorem dX7_clearAlike_24 : decode cX7_clearAlike 24 = .ok (.return_, 1) := by decide +kernel
theorem dX7_countAlike_0 : decode cX7_countAlike 0 = .ok (.iconst 0, 1) := by decide +kernel
theorem dX7_countAlike_1 : decode cX7_countAlike 1 = .ok (.istore_n 2, 1) := by decide +kernel
theorem dX7_countAlike_2 : decode cX7_countAlike 2 = .ok (.iload_n 2, 1) := by decide +kernel
theorem dX7_countAlike_3 : decode cX7_countAlike 3 = .ok (.aload_n 0, 1) := by decide +kernel
theorem dX7_countAlike_4 : decode cX7_countAlike 4 = .ok (.getfield 21, 3) := by decide +kernel
theorem dX7_countAlike_7 : decode cX7_countAlike 7 = .ok (.getfield 92, 3) := by decide +kernel
theorem dX7_countAlike_10 : decode cX7_countAlike 10 = .ok (.if_icmp .ge 41, 3) := by decide +kernel
theorem dX7_countAlike_13 : decode cX7_countAlike 13 = .ok (.aload_n 0, 1) := by decide +kernel
theorem dX7_countAlike_14 : decode cX7_countAlike 14 = .ok (.getfield 34, 3) := by decide +kernel
theorem dX7_countAlike_17 : decode cX7_countAlike 17 = .ok (.iload_n 1, 1) := by decide +kernel
theorem dX7_countAlike_18 : decode cX7_countAlike 18 = .ok (.iload_n 2, 1) := by decide +kernel
theorem dX7_countAlike_19 : decode cX7_countAlike 19 = .ok (.invokevirtual 120, 3) := by decide +kernel
theorem dX7_countAlike_22 : decode cX7_countAlike 22 = .ok (.istore_n 3, 1) := by decide +kernel
theorem dX7_countAlike_23 : decode cX7_countAlike 23 = .ok (.aload_n 0, 1) := by decide +kernel
theorem dX7_countAlike_24 : decode cX7_countAlike 24 = .ok (.getfield 60, 3) := by decide +kernel
theorem dX7_countAlike_27 : decode cX7_countAlike 27 = .ok (.iload_n 2, 1) := by decide +kernel
theorem dX7_countAlike_28 : decode cX7_countAlike 28 = .ok (.aaload, 1) := by decide +kernel
theorem dX7_countAlike_29 : decode cX7_countAlike 29 = .ok (.iload_n 3, 1) := by decide +kernel
theorem dX7_countAlike_30 : decode cX7_countAlike 30 = .ok (.iconst (-1), 1) := by decide +kernel
theorem dX7_countAlike_31 : decode cX7_countAlike 31 = .ok (.if_icmp .ne 8, 3) := by decide +kernel
theorem dX7_countAlike_34 : decode cX7_countAlike 34 = .ok (.bipush 8, 2) := by decide +kernel
theorem dX7_countAlike_36 : decode cX7_countAlike 36 = .ok (.goto 4, 3) := by decide +kernel
theorem dX7_countAlike_39 : decode cX7_countAlike 39 = .ok (.iload_n 3, 1) := by decide +kernel
theorem dX7_countAlike_40 : decode cX7_countAlike 40 = .ok (.dup2, 1) := by decide +kernel
theorem dX7_countAlike_41 : decode cX7_countAlike 41 = .ok (.iaload, 1) := by decide +kernel
theorem dX7_countAlike_42 : decode cX7_countAlike 42 = .ok (.iconst 1, 1) := by decide +kernel
theorem dX7_countAlike_43 : decode cX7_countAlike 43 = .ok (.iadd, 1) := by decide +kernel
theorem dX7_countAlike_44 : decode cX7_countAlike 44 = .ok (.iastore, 1) := by decide +kernel
theorem dX7_countAlike_45 : decode cX7_countAlike 45 = .ok (.iinc 2 1, 3) := by decide +kernel
theorem dX7_countAlike_48 : decode cX7_countAlike 48 = .ok (.goto (-46), 3) := by decide +kernel
theorem dX7_countAlike_51 : decode cX7_countAlike 51 = .ok (.return_, 1) := by decide +kernel
theorem dX7_greatestOf_0 : decode cX7_greatestOf 0 = .ok (.iconst 0, 1) := by decide +kernel
theorem dX7_greatestOf_1 : decode cX7_greatestOf 1 = .ok (.istore_n 1, 1) := by decide +kernel
theorem dX7_greatestOf_2 : decode cX7_greatestOf 2 = .ok (.aload_n 0, 1) := by decide +kernel
theorem dX7_greatestOf_3 : decode cX7_greatestOf 3 = .ok (.astore_n 2, 1) := by decide +kernel
theorem dX7_greatestOf_4 : decode cX7_greatestOf 4 = .ok (.aload_n 2, 1) := by decide +kernel
theorem dX7_greatestOf_5 : decode cX7_greatestOf 5 = .ok (.arraylength, 1) := by decide +kernel
theorem dX7_greatestOf_6 : decode cX7_greatestOf 6 = .ok (.istore_n 3, 1) := by decide +kernel
theorem dX7_greatestOf_7 : decode cX7_greatestOf 7 = .ok (.iconst 0, 1) := by decide +kernel
theorem dX7_greatestOf_8 : decode cX7_greatestOf 8 = .ok (.istore 4, 2) := by decide +kernel
theorem dX7_greatestOf_10 : decode cX7_greatestOf 10 = .ok (.iload 4, 2) := by decide +kernel
theorem dX7_greatestOf_12 : decode cX7_greatestOf 12 = .ok (.iload_n 3, 1) := by decide +kernel
theorem dX7_greatestOf_13 : decode cX7_greatestOf 13 = .ok (.if_icmp .ge 22, 3) := by decide +kernel
theorem dX7_greatestOf_16 : decode cX7_greatestOf 16 = .ok (.aload_n 2, 1) := by decide +kernel
theorem dX7_greatestOf_17 : decode cX7_greatestOf 17 = .ok (.iload 4, 2) := by decide +kernel
theorem dX7_greatestOf_19 : decode cX7_greatestOf 19 = .ok (.iaload, 1) := by decide +kernel
theorem dX7_greatestOf_20 : decode cX7_greatestOf 20 = .ok (.istore 5, 2) := by decide +kernel
theorem dX7_greatestOf_22 : decode cX7_greatestOf 22 = .ok (.iload_n 1, 1) := by decide +kernel
theorem dX7_greatestOf_23 : decode cX7_greatestOf 23 = .ok (.iload 5, 2) := by decide +kernel
theorem dX7_greatestOf_25 : decode cX7_greatestOf 25 = .ok (.invokestatic 361, 3) := by decide +kernel
theorem dX7_greatestOf_28 : decode cX7_greatestOf 28 = .ok (.istore_n 1, 1) := by decide +kernel
theorem dX7_greatestOf_29 : decode cX7_greatestOf 29 = .ok (.iinc 4 1, 3) := by decide +kernel
theorem dX7_greatestOf_32 : decode cX7_greatestOf 32 = .ok (.goto (-22), 3) := by decide +kernel
theorem dX7_greatestOf_35 : decode cX7_greatestOf 35 = .ok (.iload_n 1, 1) := by decide +kernel
theorem dX7_greatestOf_36 : decode cX7_greatestOf 36 = .ok (.ireturn, 1) := by decide +kernel
theorem dX7_chanceAbove_0 : decode cX7_chanceAbove 0 = .ok (.lconst 0, 1) := by decide +kernel
theorem dX7_chanceAbove_1 : decode cX7_chanceAbove 1 = .ok (.lstore_n 3, 1) := by decide +kernel
theorem dX7_chanceAbove_2 : decode cX7_chanceAbove 2 = .ok (.iconst 0, 1) := by decide +kernel
theorem dX7_chanceAbove_3 : decode cX7_chanceAbove 3 = .ok (.istore 5, 2) := by decide +kernel
theorem dX7_chanceAbove_5 : decode cX7_chanceAbove 5 = .ok (.iload 5, 2) := by decide +kernel
theorem dX7_chanceAbove_7 : decode cX7_chanceAbove 7 = .ok (.iload_n 2, 1) := by decide +kernel
theorem dX7_chanceAbove_8 : decode cX7_chanceAbove 8 = .ok (.if_icmp .gt 71, 3) := by decide +kernel
theorem dX7_chanceAbove_11 : decode cX7_chanceAbove 11 = .ok (.iload 5, 2) := by decide +kernel
theorem dX7_chanceAbove_13 : decode cX7_chanceAbove 13 = .ok (.aload_n 0, 1) := by decide +kernel
theorem dX7_chanceAbove_14 : decode cX7_chanceAbove 14 = .ok (.getfield 63, 3) := by decide +kernel
theorem dX7_chanceAbove_17 : decode cX7_chanceAbove 17 = .ok (.arraylength, 1) := by decide +kernel
theorem dX7_chanceAbove_18 : decode cX7_chanceAbove 18 = .ok (.if_icmp .ge 61, 3) := by decide +kernel
theorem dX7_chanceAbove_21 : decode cX7_chanceAbove 21 = .ok (.aload_n 0, 1) := by decide +kernel
theorem dX7_chanceAbove_22 : decode cX7_chanceAbove 22 = .ok (.getfield 63, 3) := by decide +kernel
theorem dX7_chanceAbove_25 : decode cX7_chanceAbove 25 = .ok (.iload 5, 2) := by decide +kernel
theorem dX7_chanceAbove_27 : decode cX7_chanceAbove 27 = .ok (.iaload, 1) := by decide +kernel
theorem dX7_chanceAbove_28 : decode cX7_chanceAbove 28 = .ok (.i2l, 1) := by decide +kernel
theorem dX7_chanceAbove_29 : decode cX7_chanceAbove 29 = .ok (.lstore 6, 2) := by decide +kernel
theorem dX7_chanceAbove_31 : decode cX7_chanceAbove 31 = .ok (.iconst 0, 1) := by decide +kernel
theorem dX7_chanceAbove_32 : decode cX7_chanceAbove 32 = .ok (.istore 8, 2) := by decide +kernel
theorem dX7_chanceAbove_34 : decode cX7_chanceAbove 34 = .ok (.iload 8, 2) := by decide +kernel
theorem dX7_chanceAbove_36 : decode cX7_chanceAbove 36 = .ok (.iload_n 2, 1) := by decide +kernel
theorem dX7_chanceAbove_37 : decode cX7_chanceAbove 37 = .ok (.if_icmp .ge 31, 3) := by decide +kernel
theorem dX7_chanceAbove_40 : decode cX7_chanceAbove 40 = .ok (.lload 6, 2) := by decide +kernel
theorem dX7_chanceAbove_42 : decode cX7_chanceAbove 42 = .ok (.iload 8, 2) := by decide +kernel
theorem dX7_chanceAbove_44 : decode cX7_chanceAbove 44 = .ok (.iload 5, 2) := by decide +kernel
theorem dX7_chanceAbove_46 : decode cX7_chanceAbove 46 = .ok (.if_icmp .ge 8, 3) := by decide +kernel
theorem dX7_chanceAbove_49 : decode cX7_chanceAbove 49 = .ok (.iload_n 1, 1) := by decide +kernel
theorem dX7_chanceAbove_50 : decode cX7_chanceAbove 50 = .ok (.i2l, 1) := by decide +kernel
theorem dX7_chanceAbove_51 : decode cX7_chanceAbove 51 = .ok (.goto 8, 3) := by decide +kernel
theorem dX7_chanceAbove_54 : decode cX7_chanceAbove 54 = .ok (.bipush 16, 2) := by decide +kernel
theorem dX7_chanceAbove_56 : decode cX7_chanceAbove 56 = .ok (.iload_n 1, 1) := by decide +kernel
theorem dX7_chanceAbove_57 : decode cX7_chanceAbove 57 = .ok (.isub, 1) := by decide +kernel
theorem dX7_chanceAbove_58 : decode cX7_chanceAbove 58 = .ok (.i2l, 1) := by decide +kernel
theorem dX7_chanceAbove_59 : decode cX7_chanceAbove 59 = .ok (.lmul, 1) := by decide +kernel
theorem dX7_chanceAbove_60 : decode cX7_chanceAbove 60 = .ok (.lstore 6, 2) := by decide +kernel
theorem dX7_chanceAbove_62 : decode cX7_chanceAbove 62 = .ok (.iinc 8 1, 3) := by decide +kernel
theorem dX7_chanceAbove_65 : decode cX7_chanceAbove 65 = .ok (.goto (-31), 3) := by decide +kernel
theorem dX7_chanceAbove_68 : decode cX7_chanceAbove 68 = .ok (.lload_n 3, 1) := by decide +kernel
theorem dX7_chanceAbove_69 : decode cX7_chanceAbove 69 = .ok (.lload 6, 2) := by decide +kernel
theorem dX7_chanceAbove_71 : decode cX7_chanceAbove 71 = .ok (.ladd, 1) := by decide +kernel
theorem dX7_chanceAbove_72 : decode cX7_chanceAbove 72 = .ok (.lstore_n 3, 1) := by decide +kernel
theorem dX7_chanceAbove_73 : decode cX7_chanceAbove 73 = .ok (.iinc 5 1, 3) := by decide +kernel
theorem dX7_chanceAbove_76 : decode cX7_chanceAbove 76 = .ok (.goto (-71), 3) := by decide +kernel
theorem dX7_chanceAbove_79 : decode cX7_chanceAbove 79 = .ok (.lload_n 3, 1) := by decide +kernel
theorem dX7_chanceAbove_80 : decode cX7_chanceAbove 80 = .ok (.lreturn, 1) := by decide +kernel
theorem dX7_finding_0 : decode cX7_finding 0 = .ok (.aload_n 0, 1) := by decide +kernel
theorem dX7_finding_1 : decode cX7_finding 1 = .ok (.iload_n 1, 1) := by decide +kernel
theorem dX7_finding_2 : decode cX7_finding 2 = .ok (.putfield 278, 3) := by decide +kernel
theorem dX7_finding_5 : decode cX7_finding 5 = .ok (.bipush (-10), 2) := by decide +kernel
theorem dX7_finding_7 : decode cX7_finding 7 = .ok (.iload_n 1, 1) := by decide +kernel
theorem dX7_finding_8 : decode cX7_finding 8 = .ok (.isub, 1) := by decide +kernel
theorem dX7_finding_9 : decode cX7_finding 9 = .ok (.ireturn, 1) := by decide +kernel
theorem dX7_refusalOfItem_0 : decode cX7_refusalOfItem 0 = .ok (.iload_n 1, 1) := by decide +kernel
theorem dX7_refusalOfItem_1 : decode cX7_refusalOfItem 1 = .ok (.iconst 4, 1) := by decide +kernel
theorem dX7_refusalOfItem_2 : decode cX7_refusalOfItem 2 = .ok (.invokestatic 70, 3) := by decide +kernel
theorem dX7_refusalOfItem_5 : decode cX7_refusalOfItem 5 = .ok (.ifCond .ne 11, 3) := by decide +kernel
theorem dX7_refusalOfItem_8 : decode cX7_refusalOfItem 8 = .ok (.iload_n 2, 1) := by decide +kernel
theorem dX7_refusalOfItem_9 : decode cX7_refusalOfItem 9 = .ok (.iconst 3, 1) := by decide +kernel
theorem dX7_refusalOfItem_10 : decode cX7_refusalOfItem 10 = .ok (.invokestatic 70, 3) := by decide +kernel
theorem dX7_refusalOfItem_13 : decode cX7_refusalOfItem 13 = .ok (.ifCond .eq 6, 3) := by decide +kernel
theorem dX7_refusalOfItem_16 : decode cX7_refusalOfItem 16 = .ok (.bipush (-2), 2) := by decide +kernel
theorem dX7_refusalOfItem_18 : decode cX7_refusalOfItem 18 = .ok (.ireturn, 1) := by decide +kernel
theorem dX7_refusalOfItem_19 : decode cX7_refusalOfItem 19 = .ok (.aload_n 0, 1) := by decide +kernel
theorem dX7_refusalOfItem_20 : decode cX7_refusalOfItem 20 = .ok (.getfield 54, 3) := by decide +kernel
theorem dX7_refusalOfItem_23 : decode cX7_refusalOfItem 23 = .ok (.iload_n 1, 1) := by decide +kernel
theorem dX7_refusalOfItem_24 : decode cX7_refusalOfItem 24 = .ok (.aaload, 1) := by decide +kernel
theorem dX7_refusalOfItem_25 : decode cX7_refusalOfItem 25 = .ok (.invokevirtual 192, 3) := by decide +kernel
theorem dX7_refusalOfItem_28 : decode cX7_refusalOfItem 28 = .ok (.ifCond .eq 9, 3) := by decide +kernel
theorem dX7_refusalOfItem_31 : decode cX7_refusalOfItem 31 = .ok (.aload_n 0, 1) := by decide +kernel
theorem dX7_refusalOfItem_32 : decode cX7_refusalOfItem 32 = .ok (.iconst 1, 1) := by decide +kernel
theorem dX7_refusalOfItem_33 : decode cX7_refusalOfItem 33 = .ok (.invokevirtual 195, 3) := by decide +kernel
theorem dX7_refusalOfItem_36 : decode cX7_refusalOfItem 36 = .ok (.ireturn, 1) := by decide +kernel
theorem dX7_refusalOfItem_37 : decode cX7_refusalOfItem 37 = .ok (.aload_n 0, 1) := by decide +kernel
theorem dX7_refusalOfItem_38 : decode cX7_refusalOfItem 38 = .ok (.getfield 54, 3) := by decide +kernel
theorem dX7_refusalOfItem_41 : decode cX7_refusalOfItem 41 = .ok (.iload_n 1, 1) := by decide +kernel
theorem dX7_refusalOfItem_42 : decode cX7_refusalOfItem 42 = .ok (.aaload, 1) := by decide +kernel
theorem dX7_refusalOfItem_43 : decode cX7_refusalOfItem 43 = .ok (.getfield 257, 3) := by decide +kernel
theorem dX7_refusalOfItem_46 : decode cX7_refusalOfItem 46 = .ok (.iload_n 2, 1) := by decide +kernel
theorem dX7_refusalOfItem_47 : decode cX7_refusalOfItem 47 = .ok (.if_icmp .eq 9, 3) := by decide +kernel
theorem dX7_refusalOfItem_50 : decode cX7_refusalOfItem 50 = .ok (.aload_n 0, 1) := by decide +kernel
theorem dX7_refusalOfItem_51 : decode cX7_refusalOfItem 51 = .ok (.iconst 3, 1) := by decide +kernel
theorem dX7_refusalOfItem_52 : decode cX7_refusalOfItem 52 = .ok (.invokevirtual 195, 3) := by decide +kernel
theorem dX7_refusalOfItem_55 : decode cX7_refusalOfItem 55 = .ok (.ireturn, 1) := by decide +kernel
theorem dX7_refusalOfItem_56 : decode cX7_refusalOfItem 56 = .ok (.aload_n 0, 1) := by decide +kernel
theorem dX7_refusalOfItem_57 : decode cX7_refusalOfItem 57 = .ok (.getfield 54, 3) := by decide +kernel
theorem dX7_refusalOfItem_60 : decode cX7_refusalOfItem 60 = .ok (.iload_n 1, 1) := by decide +kernel
theorem dX7_refusalOfItem_61 : decode cX7_refusalOfItem 61 = .ok (.aaload, 1) := by decide +kernel
theorem dX7_refusalOfItem_62 : decode cX7_refusalOfItem 62 = .ok (.iload_n 3, 1) := by decide +kernel
theorem dX7_refusalOfItem_63 : decode cX7_refusalOfItem 63 = .ok (.iconst 1, 1) := by decide +kernel
theorem dX7_refusalOfItem_64 : decode cX7_refusalOfItem 64 = .ok (.invokevirtual 260, 3) := by decide +kernel
theorem dX7_refusalOfItem_67 : decode cX7_refusalOfItem 67 = .ok (.ifCond .eq 7, 3) := by decide +kernel
theorem dX7_refusalOfItem_70 : decode cX7_refusalOfItem 70 = .ok (.iconst 0, 1) := by decide +kernel
theorem dX7_refusalOfItem_71 : decode cX7_refusalOfItem 71 = .ok (.goto 8, 3) := by decide +kernel
theorem dX7_refusalOfItem_74 : decode cX7_refusalOfItem 74 = .ok (.aload_n 0, 1) := by decide +kernel
theorem dX7_refusalOfItem_75 : decode cX7_refusalOfItem 75 = .ok (.iconst 2, 1) := by decide +kernel
theorem dX7_refusalOfItem_76 : decode cX7_refusalOfItem 76 = .ok (.invokevirtual 195, 3) := by decide +kernel
theorem dX7_refusalOfItem_79 : decode cX7_refusalOfItem 79 = .ok (.ireturn, 1) := by decide +kernel
end
section
theorem dX8_init_0 : decode cX8_init 0 = .ok (.aload_n 0, 1) := by decide +kernel
theorem dX8_init_1 : decode cX8_init 1 = .ok (.invokespecial 1, 3) := by decide +kernel
theorem dX8_init_4 : decode cX8_init 4 = .ok (.aload_n 0, 1) := by decide +kernel
theorem dX8_init_5 : decode cX8_init 5 = .ok (.iconst 4, 1) := by decide +kernel
theorem dX8_init_6 : decode cX8_init 6 = .ok (.newarray .int, 2) := by decide +kernel
theorem dX8_init_8 : decode cX8_init 8 = .ok (.putfield 7, 3) := by decide +kernel
theorem dX8_init_11 : decode cX8_init 11 = .ok (.aload_n 0, 1) := by decide +kernel
theorem dX8_init_12 : decode cX8_init 12 = .ok (.iconst 4, 1) := by decide +kernel
theorem dX8_init_13 : decode cX8_init 13 = .ok (.newarray .int, 2) := by decide +kernel
theorem dX8_init_15 : decode cX8_init 15 = .ok (.putfield 13, 3) := by decide +kernel
theorem dX8_init_18 : decode cX8_init 18 = .ok (.aload_n 0, 1) := by decide +kernel
theorem dX8_init_19 : decode cX8_init 19 = .ok (.sipush 240, 3) := by decide +kernel
theorem dX8_init_22 : decode cX8_init 22 = .ok (.newarray .int, 2) := by decide +kernel
theorem dX8_init_24 : decode cX8_init 24 = .ok (.putfield 16, 3) := by decide +kernel
theorem dX8_init_27 : decode cX8_init 27 = .ok (.aload_n 0, 1) := by decide +kernel
theorem dX8_init_28 : decode cX8_init 28 = .ok (.bipush 60, 2) := by decide +kernel
theorem dX8_init_30 : decode cX8_init 30 = .ok (.newarray .int, 2) := by decide +kernel
theorem dX8_init_32 : decode cX8_init 32 = .ok (.putfield 19, 3) := by decide +kernel
theorem dX8_init_35 : decode cX8_init 35 = .ok (.aload_n 0, 1) := by decide +kernel
theorem dX8_init_36 : decode cX8_init 36 = .ok (.bipush 80, 2) := by decide +kernel
theorem dX8_init_38 : decode cX8_init 38 = .ok (.newarray .int, 2) := by decide +kernel
theorem dX8_init_40 : decode cX8_init 40 = .ok (.putfield 22, 3) := by decide +kernel
theorem dX8_init_43 : decode cX8_init 43 = .ok (.aload_n 0, 1) := by decide +kernel
theorem dX8_init_44 : decode cX8_init 44 = .ok (.iconst 2, 1) := by decide +kernel
theorem dX8_init_45 : decode cX8_init 45 = .ok (.newarray .int, 2) := by decide +kernel
theorem dX8_init_47 : decode cX8_init 47 = .ok (.putfield 25, 3) := by decide +kernel
theorem dX8_init_50 : decode cX8_init 50 = .ok (.aload_n 0, 1) := by decide +kernel
theorem dX8_init_51 : decode cX8_init 51 = .ok (.bipush 32, 2) := by decide +kernel
theorem dX8_init_53 : decode cX8_init 53 = .ok (.newarray .int, 2) := by decide +kernel
theorem dX8_init_55 : decode cX8_init 55 = .ok (.putfield 28, 3) := by decide +kernel
theorem dX8_init_58 : decode cX8_init 58 = .ok (.aload_n 0, 1) := by decide +kernel
theorem dX8_init_59 : decode cX8_init 59 = .ok (.bipush 16, 2) := by decide +kernel
theorem dX8_init_61 : decode cX8_init 61 = .ok (.newarray .int, 2) := by decide +kernel
theorem dX8_init_63 : decode cX8_init 63 = .ok (.putfield 31, 3) := by decide +kernel
theorem dX8_init_66 : decode cX8_init 66 = .ok (.aload_n 0, 1) := by decide +kernel
theorem dX8_init_67 : decode cX8_init 67 = .ok (.bipush 8, 2) := by decide +kernel
theorem dX8_init_69 : decode cX8_init 69 = .ok (.newarray .int, 2) := by decide +kernel
theorem dX8_init_71 : decode cX8_init 71 = .ok (.putfield 34, 3) := by decide +kernel
theorem dX8_init_74 : decode cX8_init 74 = .ok (.aload_n 0, 1) := by decide +kernel
theorem dX8_init_75 : decode cX8_init 75 = .ok (.iconst 3, 1) := by decide +kernel
theorem dX8_init_76 : decode cX8_init 76 = .ok (.newarray .int, 2) := by decide +kernel
theorem dX8_init_78 : decode cX8_init 78 = .ok (.putfield 37, 3) := by decide +kernel
theorem dX8_init_81 : decode cX8_init 81 = .ok (.aload_n 0, 1) := by decide +kernel
theorem dX8_init_82 : decode cX8_init 82 = .ok (.bipush 8, 2) := by decide +kernel
theorem dX8_init_84 : decode cX8_init 84 = .ok (.newarray .int, 2) := by decide +kernel
theorem dX8_init_86 : decode cX8_init 86 = .ok (.putfield 40, 3) := by decide +kernel
theorem dX8_init_89 : decode cX8_init 89 = .ok (.aload_n 0, 1) := by decide +kernel
theorem dX8_init_90 : decode cX8_init 90 = .ok (.bipush 8, 2) := by decide +kernel
theorem dX8_init_92 : decode cX8_init 92 = .ok (.newarray .int, 2) := by decide +kernel
theorem dX8_init_94 : decode cX8_init 94 = .ok (.putfield 43, 3) := by decide +kernel
theorem dX8_init_97 : decode cX8_init 97 = .ok (.aload_n 0, 1) := by decide +kernel
theorem dX8_init_98 : decode cX8_init 98 = .ok (.bipush 29, 2) := by decide +kernel
theorem dX8_init_100 : decode cX8_init 100 = .ok (.newarray .int, 2) := by decide +kernel
theorem dX8_init_102 : decode cX8_init 102 = .ok (.putfield 46, 3) := by decide +kernel
theorem dX8_init_105 : decode cX8_init 105 = .ok (.aload_n 0, 1) := by decide +kernel
theorem dX8_init_106 : decode cX8_init 106 = .ok (.bipush 80, 2) := by decide +kernel
theorem dX8_init_108 : decode cX8_init 108 = .ok (.newarray .int, 2) := by decide +kernel
theorem dX8_init_110 : decode cX8_init 110 = .ok (.putfield 49, 3) := by decide +kernel
theorem dX8_init_113 : decode cX8_init 113 = .ok (.aload_n 0, 1) := by decide +kernel
theorem dX8_init_114 : decode cX8_init 114 = .ok (.bipush 80, 2) := by decide +kernel
theorem dX8_init_116 : decode cX8_init 116 = .ok (.newarray .int, 2) := by decide +kernel
theorem dX8_init_118 : decode cX8_init 118 = .ok (.putfield 52, 3) := by decide +kernel
theorem dX8_init_121 : decode cX8_init 121 = .ok (.aload_n 0, 1) := by decide +kernel
theorem dX8_init_122 : decode cX8_init 122 = .ok (.bipush 10, 2) := by decide +kernel
theorem dX8_init_124 : decode cX8_init 124 = .ok (.newarray .int, 2) := by decide +kernel
theorem dX8_init_126 : decode cX8_init 126 = .ok (.putfield 55, 3) := by decide +kernel
theorem dX8_init_129 : decode cX8_init 129 = .ok (.aload_n 0, 1) := by decide +kernel
theorem dX8_init_130 : decode cX8_init 130 = .ok (.sipush 290, 3) := by decide +kernel
theorem dX8_init_133 : decode cX8_init 133 = .ok (.newarray .int, 2) := by decide +kernel
theorem dX8_init_135 : decode cX8_init 135 = .ok (.putfield 58, 3) := by decide +kernel
theorem dX8_init_138 : decode cX8_init 138 = .ok (.aload_n 0, 1) := by decide +kernel
theorem dX8_init_139 : decode cX8_init 139 = .ok (.iconst 3, 1) := by decide +kernel
theorem dX8_init_140 : decode cX8_init 140 = .ok (.newarray .int, 2) := by decide +kernel
theorem dX8_init_142 : decode cX8_init 142 = .ok (.putfield 61, 3) := by decide +kernel
theorem dX8_init_145 : decode cX8_init 145 = .ok (.aload_n 0, 1) := by decide +kernel
theorem dX8_init_146 : decode cX8_init 146 = .ok (.bipush 24, 2) := by decide +kernel
theorem dX8_init_148 : decode cX8_init 148 = .ok (.newarray .int, 2) := by decide +kernel
theorem dX8_init_150 : decode cX8_init 150 = .ok (.putfield 64, 3) := by decide +kernel
theorem dX8_init_153 : decode cX8_init 153 = .ok (.aload_n 0, 1) := by decide +kernel
theorem dX8_init_154 : decode cX8_init 154 = .ok (.bipush 72, 2) := by decide +kernel
theorem dX8_init_156 : decode cX8_init 156 = .ok (.newarray .int, 2) := by decide +kernel
theorem dX8_init_158 : decode cX8_init 158 = .ok (.putfield 67, 3) := by decide +kernel
theorem dX8_init_161 : decode cX8_init 161 = .ok (.iconst 0, 1) := by decide +kernel
theorem dX8_init_162 : decode cX8_init 162 = .ok (.istore_n 1, 1) := by decide +kernel
theorem dX8_init_163 : decode cX8_init 163 = .ok (.iload_n 1, 1) := by decide +kernel
theorem dX8_init_164 : decode cX8_init 164 = .ok (.iconst 4, 1) := by decide +kernel
theorem dX8_init_165 : decode cX8_init 165 = .ok (.if_icmp .ge 16, 3) := by decide +kernel
theorem dX8_init_168 : decode cX8_init 168 = .ok (.aload_n 0, 1) := by decide +kernel
theorem dX8_init_169 : decode cX8_init 169 = .ok (.getfield 7, 3) := by decide +kernel
theorem dX8_init_172 : decode cX8_init 172 = .ok (.iload_n 1, 1) := by decide +kernel
theorem dX8_init_173 : decode cX8_init 173 = .ok (.iconst (-1), 1) := by decide +kernel
theorem dX8_init_174 : decode cX8_init 174 = .ok (.iastore, 1) := by decide +kernel
theorem dX8_init_175 : decode cX8_init 175 = .ok (.iinc 1 1, 3) := by decide +kernel
theorem dX8_init_178 : decode cX8_init 178 = .ok (.goto (-15), 3) := by decide +kernel
theorem dX8_init_181 : decode cX8_init 181 = .ok (.iconst 0, 1) := by decide +kernel
theorem dX8_init_182 : decode cX8_init 182 = .ok (.istore_n 1, 1) := by decide +kernel
theorem dX8_init_183 : decode cX8_init 183 = .ok (.iload_n 1, 1) := by decide +kernel
theorem dX8_init_184 : decode cX8_init 184 = .ok (.bipush 8, 2) := by decide +kernel
theorem dX8_init_186 : decode cX8_init 186 = .ok (.if_icmp .ge 18, 3) := by decide +kernel
theorem dX8_init_189 : decode cX8_init 189 = .ok (.aload_n 0, 1) := by decide +kernel
theorem dX8_init_190 : decode cX8_init 190 = .ok (.getfield 34, 3) := by decide +kernel
theorem dX8_init_193 : decode cX8_init 193 = .ok (.iload_n 1, 1) := by decide +kernel
theorem dX8_init_194 : decode cX8_init 194 = .ok (.iload_n 1, 1) := by decide +kernel
theorem dX8_init_195 : decode cX8_init 195 = .ok (.iconst 1, 1) := by decide +kernel
theorem dX8_init_196 : decode cX8_init 196 = .ok (.iadd, 1) := by decide +kernel
theorem dX8_init_197 : decode cX8_init 197 = .ok (.iastore, 1) := by decide +kernel
theorem dX8_init_198 : decode cX8_init 198 = .ok (.iinc 1 1, 3) := by decide +kernel
theorem dX8_init_201 : decode cX8_init 201 = .ok (.goto (-18), 3) := by decide +kernel
theorem dX8_init_204 : decode cX8_init 204 = .ok (.aload_n 0, 1) := by decide +kernel
theorem dX8_init_205 : decode cX8_init 205 = .ok (.getfield 37, 3) := by decide +kernel
theorem dX8_init_208 : decode cX8_init 208 = .ok (.iconst 0, 1) := by decide +kernel
theorem dX8_init_209 : decode cX8_init 209 = .ok (.iconst 2, 1) := by decide +kernel
theorem dX8_init_210 : decode cX8_init 210 = .ok (.iastore, 1) := by decide +kernel
theorem dX8_init_211 : decode cX8_init 211 = .ok (.aload_n 0, 1) := by decide +kernel
theorem dX8_init_212 : decode cX8_init 212 = .ok (.getfield 37, 3) := by decide +kernel
theorem dX8_init_215 : decode cX8_init 215 = .ok (.iconst 1, 1) := by decide +kernel
theorem dX8_init_216 : decode cX8_init 216 = .ok (.bipush 32, 2) := by decide +kernel
theorem dX8_init_218 : decode cX8_init 218 = .ok (.iastore, 1) := by decide +kernel
theorem dX8_init_219 : decode cX8_init 219 = .ok (.aload_n 0, 1) := by decide +kernel
theorem dX8_init_220 : decode cX8_init 220 = .ok (.iconst (-1), 1) := by decide +kernel
theorem dX8_init_221 : decode cX8_init 221 = .ok (.putfield 70, 3) := by decide +kernel
theorem dX8_init_224 : decode cX8_init 224 = .ok (.return_, 1) := by decide +kernel
theorem dX8_in_0 : decode cX8_in 0 = .ok (.lload_n 0, 1) := by decide +kernel
theorem dX8_in_1 : decode cX8_in 1 = .ok (.lload_n 2, 1) := by decide +kernel
theorem dX8_in_2 : decode cX8_in 2 = .ok (.lcmp, 1) := by decide +kernel
theorem dX8_in_3 : decode cX8_in 3 = .ok (.ifCond .lt 14, 3) := by decide +kernel
theorem dX8_in_6 : decode cX8_in 6 = .ok (.lload_n 0, 1) := by decide +kernel
theorem dX8_in_7 : decode cX8_in 7 = .ok (.lload 4, 2) := by decide +kernel
theorem dX8_in_9 : decode cX8_in 9 = .ok (.lcmp, 1) := by decide +kernel
theorem dX8_in_10 : decode cX8_in 10 = .ok (.ifCond .gt 7, 3) := by decide +kernel
theorem dX8_in_13 : decode cX8_in 13 = .ok (.iconst 1, 1) := by decide +kernel
theorem dX8_in_14 : decode cX8_in 14 = .ok (.goto 4, 3) := by decide +kernel
theorem dX8_in_17 : decode cX8_in 17 = .ok (.iconst 0, 1) := by decide +kernel
theorem dX8_in_18 : decode cX8_in 18 = .ok (.ireturn, 1) := by decide +kernel
theorem dX8_no_0 : decode cX8_no 0 = .ok (.ldc2_w 74, 3) := by decide +kernel
theorem dX8_no_3 : decode cX8_no 3 = .ok (.iload_n 0, 1) := by decide +kernel
theorem dX8_no_4 : decode cX8_no 4 = .ok (.i2l, 1) := by decide +kernel
theorem dX8_no_5 : decode cX8_no 5 = .ok (.lsub, 1) := by decide +kernel
theorem dX8_no_6 : decode cX8_no 6 = .ok (.lreturn, 1) := by decide +kernel
theorem dX8_isTwo_0 : decode cX8_isTwo 0 = .ok (.iload_n 0, 1) := by decide +kernel
theorem dX8_isTwo_1 : decode cX8_isTwo 1 = .ok (.i2l, 1) := by decide +kernel
theorem dX8_isTwo_2 : decode cX8_isTwo 2 = .ok (.lconst 0, 1) := by decide +kernel
theorem dX8_isTwo_3 : decode cX8_isTwo 3 = .ok (.lconst 1, 1) := by decide +kernel
theorem dX8_isTwo_4 : decode cX8_isTwo 4 = .ok (.invokestatic 76, 3) := by decide +kernel
theorem dX8_isTwo_7 : decode cX8_isTwo 7 = .ok (.ireturn, 1) := by decide +kernel
theorem dX8_isIn_0 : decode cX8_isIn 0 = .ok (.iload_n 0, 1) := by decide +kernel
theorem dX8_isIn_1 : decode cX8_isIn 1 = .ok (.iload_n 1, 1) := by decide +kernel
theorem dX8_isIn_2 : decode cX8_isIn 2 = .ok (.ishr, 1) := by decide +kernel
theorem dX8_isIn_3 : decode cX8_isIn 3 = .ok (.iconst 1, 1) := by decide +kernel
theorem dX8_isIn_4 : decode cX8_isIn 4 = .ok (.iand, 1) := by decide +kernel
theorem dX8_isIn_5 : decode cX8_isIn 5 = .ok (.iconst 1, 1) := by decide +kernel
theorem dX8_isIn_6 : decode cX8_isIn 6 = .ok (.if_icmp .ne 7, 3) := by decide +kernel
theorem dX8_isIn_9 : decode cX8_isIn 9 = .ok (.iconst 1, 1) := by decide +kernel
theorem dX8_isIn_10 : decode cX8_isIn 10 = .ok (.goto 4, 3) := by decide +kernel
theorem dX8_isIn_13 : decode cX8_isIn 13 = .ok (.iconst 0, 1) := by decide +kernel
theorem dX8_isIn_14 : decode cX8_isIn 14 = .ok (.ireturn, 1) := by decide +kernel
theorem dX8_ones_0 : decode cX8_ones 0 = .ok (.iconst 0, 1) := by decide +kernel
theorem dX8_ones_1 : decode cX8_ones 1 = .ok (.istore_n 1, 1) := by decide +kernel
theorem dX8_ones_2 : decode cX8_ones 2 = .ok (.iload_n 0, 1) := by decide +kernel
theorem dX8_ones_3 : decode cX8_ones 3 = .ok (.istore_n 2, 1) := by decide +kernel
theorem dX8_ones_4 : decode cX8_ones 4 = .ok (.iload_n 2, 1) := by decide +kernel
theorem dX8_ones_5 : decode cX8_ones 5 = .ok (.ifCond .eq 15, 3) := by decide +kernel
theorem dX8_ones_8 : decode cX8_ones 8 = .ok (.iinc 1 1, 3) := by decide +kernel
theorem dX8_ones_11 : decode cX8_ones 11 = .ok (.iload_n 2, 1) := by decide +kernel
theorem dX8_ones_12 : decode cX8_ones 12 = .ok (.iload_n 2, 1) := by decide +kernel
theorem dX8_ones_13 : decode cX8_ones 13 = .ok (.iconst 1, 1) := by decide +kernel
theorem dX8_ones_14 : decode cX8_ones 14 = .ok (.isub, 1) := by decide +kernel
theorem dX8_ones_15 : decode cX8_ones 15 = .ok (.iand, 1) := by decide +kernel
theorem dX8_ones_16 : decode cX8_ones 16 = .ok (.istore_n 2, 1) := by decide +kernel
theorem dX8_ones_17 : decode cX8_ones 17 = .ok (.goto (-13), 3) := by decide +kernel
theorem dX8_ones_20 : decode cX8_ones 20 = .ok (.iload_n 1, 1) := by decide +kernel
theorem dX8_ones_21 : decode cX8_ones 21 = .ok (.ireturn, 1) := by decide +kernel
theorem dX8_lesser_0 : decode cX8_lesser 0 = .ok (.iload_n 0, 1) := by decide +kernel
theorem dX8_lesser_1 : decode cX8_lesser 1 = .ok (.iload_n 1, 1) := by decide +kernel
theorem dX8_lesser_2 : decode cX8_lesser 2 = .ok (.if_icmp .ge 7, 3) := by decide +kernel
theorem dX8_lesser_5 : decode cX8_lesser 5 = .ok (.iload_n 0, 1) := by decide +kernel
theorem dX8_lesser_6 : decode cX8_lesser 6 = .ok (.goto 4, 3) := by decide +kernel
theorem dX8_lesser_9 : decode cX8_lesser 9 = .ok (.iload_n 1, 1) := by decide +kernel
theorem dX8_lesser_10 : decode cX8_lesser 10 = .ok (.ireturn, 1) := by decide +kernel
theorem dX8_greater_0 : decode cX8_greater 0 = .ok (.iload_n 0, 1) := by decide +kernel
theorem dX8_greater_1 : decode cX8_greater 1 = .ok (.iload_n 1, 1) := by decide +kernel
theorem dX8_greater_2 : decode cX8_greater 2 = .ok (.if_icmp .le 7, 3) := by decide +kernel
theorem dX8_greater_5 : decode cX8_greater 5 = .ok (.iload_n 0, 1) := by decide +kernel
theorem dX8_greater_6 : decode cX8_greater 6 = .ok (.goto 4, 3) := by decide +kernel
theorem dX8_greater_9 : decode cX8_greater 9 = .ok (.iload_n 1, 1) := by decide +kernel
theorem dX8_greater_10 : decode cX8_greater 10 = .ok (.ireturn, 1) := by decide +kernel
theorem dX8_part_0 : decode cX8_part 0 = .ok (.lload_n 0, 1) := by decide +kernel
theorem dX8_part_1 : decode cX8_part 1 = .ok (.lstore 5, 2) := by decide +kernel
theorem dX8_part_3 : decode cX8_part 3 = .ok (.lload_n 2, 1) := by decide +kernel
theorem dX8_part_4 : decode cX8_part 4 = .ok (.lstore 7, 2) := by decide +kernel
theorem dX8_part_6 : decode cX8_part 6 = .ok (.lload 7, 2) := by decide +kernel
theorem dX8_part_8 : decode cX8_part 8 = .ok (.lconst 0, 1) := by decide +kernel
theorem dX8_part_9 : decode cX8_part 9 = .ok (.lcmp, 1) := by decide +kernel
theorem dX8_part_10 : decode cX8_part 10 = .ok (.ifCond .eq 21, 3) := by decide +kernel
theorem dX8_part_13 : decode cX8_part 13 = .ok (.lload 5, 2) := by decide +kernel
theorem dX8_part_15 : decode cX8_part 15 = .ok (.lload 7, 2) := by decide +kernel
theorem dX8_part_17 : decode cX8_part 17 = .ok (.lrem, 1) := by decide +kernel
theorem dX8_part_18 : decode cX8_part 18 = .ok (.lstore 9, 2) := by decide +kernel
theorem dX8_part_20 : decode cX8_part 20 = .ok (.lload 7, 2) := by decide +kernel
theorem dX8_part_22 : decode cX8_part 22 = .ok (.lstore 5, 2) := by decide +kernel
theorem dX8_part_24 : decode cX8_part 24 = .ok (.lload 9, 2) := by decide +kernel
theorem dX8_part_26 : decode cX8_part 26 = .ok (.lstore 7, 2) := by decide +kernel
theorem dX8_part_28 : decode cX8_part 28 = .ok (.goto (-22), 3) := by decide +kernel
theorem dX8_part_31 : decode cX8_part 31 = .ok (.iload 4, 2) := by decide +kernel
theorem dX8_part_33 : decode cX8_part 33 = .ok (.ifCond .ne 7, 3) := by decide +kernel
theorem dX8_part_36 : decode cX8_part 36 = .ok (.lload_n 0, 1) := by decide +kernel
theorem dX8_part_37 : decode cX8_part 37 = .ok (.goto 4, 3) := by decide +kernel
theorem dX8_part_40 : decode cX8_part 40 = .ok (.lload_n 2, 1) := by decide +kernel
theorem dX8_part_41 : decode cX8_part 41 = .ok (.lload 5, 2) := by decide +kernel
theorem dX8_part_43 : decode cX8_part 43 = .ok (.ldiv, 1) := by decide +kernel
theorem dX8_part_44 : decode cX8_part 44 = .ok (.lreturn, 1) := by decide +kernel
theorem dX8_finds_0 : decode cX8_finds 0 = .ok (.aload_n 0, 1) := by decide +kernel
theorem dX8_finds_1 : decode cX8_finds 1 = .ok (.iload_n 1, 1) := by decide +kernel
theorem dX8_finds_2 : decode cX8_finds 2 = .ok (.putfield 80, 3) := by decide +kernel
theorem dX8_finds_5 : decode cX8_finds 5 = .ok (.bipush (-10), 2) := by decide +kernel
theorem dX8_finds_7 : decode cX8_finds 7 = .ok (.iload_n 1, 1) := by decide +kernel
theorem dX8_finds_8 : decode cX8_finds 8 = .ok (.isub, 1) := by decide +kernel
theorem dX8_finds_9 : decode cX8_finds 9 = .ok (.ireturn, 1) := by decide +kernel
theorem dX8_isSheet_0 : decode cX8_isSheet 0 = .ok (.iload_n 0, 1) := by decide +kernel
theorem dX8_isSheet_1 : decode cX8_isSheet 1 = .ok (.i2l, 1) := by decide +kernel
theorem dX8_isSheet_2 : decode cX8_isSheet 2 = .ok (.lconst 0, 1) := by decide +kernel
theorem dX8_isSheet_3 : decode cX8_isSheet 3 = .ok (.ldc2_w 83, 3) := by decide +kernel
theorem dX8_isSheet_6 : decode cX8_isSheet 6 = .ok (.invokestatic 76, 3) := by decide +kernel
theorem dX8_isSheet_9 : decode cX8_isSheet 9 = .ok (.ireturn, 1) := by decide +kernel
theorem dX8_sheet_0 : decode cX8_sheet 0 = .ok (.iload_n 1, 1) := by decide +kernel
theorem dX8_sheet_1 : decode cX8_sheet 1 = .ok (.invokestatic 85, 3) := by decide +kernel
theorem dX8_sheet_4 : decode cX8_sheet 4 = .ok (.ifCond .eq 21, 3) := by decide +kernel
theorem dX8_sheet_7 : decode cX8_sheet 7 = .ok (.iload_n 2, 1) := by decide +kernel
theorem dX8_sheet_8 : decode cX8_sheet 8 = .ok (.i2l, 1) := by decide +kernel
theorem dX8_sheet_9 : decode cX8_sheet 9 = .ok (.lconst 0, 1) := by decide +kernel
theorem dX8_sheet_10 : decode cX8_sheet 10 = .ok (.ldc2_w 89, 3) := by decide +kernel
theorem dX8_sheet_13 : decode cX8_sheet 13 = .ok (.invokestatic 76, 3) := by decide +kernel
theorem dX8_sheet_16 : decode cX8_sheet 16 = .ok (.ifCond .eq 9, 3) := by decide +kernel
theorem dX8_sheet_19 : decode cX8_sheet 19 = .ok (.iload_n 3, 1) := by decide +kernel
theorem dX8_sheet_20 : decode cX8_sheet 20 = .ok (.bipush 60, 2) := by decide +kernel
theorem dX8_sheet_22 : decode cX8_sheet 22 = .ok (.if_icmp .le 6, 3) := by decide +kernel
theorem dX8_sheet_25 : decode cX8_sheet 25 = .ok (.bipush (-2), 2) := by decide +kernel
theorem dX8_sheet_27 : decode cX8_sheet 27 = .ok (.ireturn, 1) := by decide +kernel
theorem dX8_sheet_28 : decode cX8_sheet 28 = .ok (.iload_n 3, 1) := by decide +kernel
theorem dX8_sheet_29 : decode cX8_sheet 29 = .ok (.ifCond .ge 9, 3) := by decide +kernel
theorem dX8_sheet_32 : decode cX8_sheet 32 = .ok (.aload_n 0, 1) := by decide +kernel
theorem dX8_sheet_33 : decode cX8_sheet 33 = .ok (.iconst 5, 1) := by decide +kernel
theorem dX8_sheet_34 : decode cX8_sheet 34 = .ok (.invokevirtual 91, 3) := by decide +kernel
theorem dX8_sheet_37 : decode cX8_sheet 37 = .ok (.ireturn, 1) := by decide +kernel
theorem dX8_sheet_38 : decode cX8_sheet 38 = .ok (.aload_n 0, 1) := by decide +kernel
theorem dX8_sheet_39 : decode cX8_sheet 39 = .ok (.getfield 7, 3) := by decide +kernel
theorem dX8_sheet_42 : decode cX8_sheet 42 = .ok (.iload_n 1, 1) := by decide +kernel
theorem dX8_sheet_43 : decode cX8_sheet 43 = .ok (.iload_n 2, 1) := by decide +kernel
theorem dX8_sheet_44 : decode cX8_sheet 44 = .ok (.iastore, 1) := by decide +kernel
theorem dX8_sheet_45 : decode cX8_sheet 45 = .ok (.aload_n 0, 1) := by decide +kernel
theorem dX8_sheet_46 : decode cX8_sheet 46 = .ok (.getfield 13, 3) := by decide +kernel
theorem dX8_sheet_49 : decode cX8_sheet 49 = .ok (.iload_n 1, 1) := by decide +kernel
theorem dX8_sheet_50 : decode cX8_sheet 50 = .ok (.iload_n 3, 1) := by decide +kernel
theorem dX8_sheet_51 : decode cX8_sheet 51 = .ok (.iastore, 1) := by decide +kernel
theorem dX8_sheet_52 : decode cX8_sheet 52 = .ok (.iconst 0, 1) := by decide +kernel
theorem dX8_sheet_53 : decode cX8_sheet 53 = .ok (.istore 4, 2) := by decide +kernel
theorem dX8_sheet_55 : decode cX8_sheet 55 = .ok (.iload 4, 2) := by decide +kernel
theorem dX8_sheet_57 : decode cX8_sheet 57 = .ok (.iload_n 3, 1) := by decide +kernel
theorem dX8_sheet_58 : decode cX8_sheet 58 = .ok (.if_icmp .ge 22, 3) := by decide +kernel
theorem dX8_sheet_61 : decode cX8_sheet 61 = .ok (.aload_n 0, 1) := by decide +kernel
theorem dX8_sheet_62 : decode cX8_sheet 62 = .ok (.getfield 16, 3) := by decide +kernel
theorem dX8_sheet_65 : decode cX8_sheet 65 = .ok (.bipush 60, 2) := by decide +kernel
theorem dX8_sheet_67 : decode cX8_sheet 67 = .ok (.iload_n 1, 1) := by decide +kernel
theorem dX8_sheet_68 : decode cX8_sheet 68 = .ok (.imul, 1) := by decide +kernel
theorem dX8_sheet_69 : decode cX8_sheet 69 = .ok (.iload 4, 2) := by decide +kernel
theorem dX8_sheet_71 : decode cX8_sheet 71 = .ok (.iadd, 1) := by decide +kernel
theorem dX8_sheet_72 : decode cX8_sheet 72 = .ok (.iconst 0, 1) := by decide +kernel
theorem dX8_sheet_73 : decode cX8_sheet 73 = .ok (.iastore, 1) := by decide +kernel
theorem dX8_sheet_74 : decode cX8_sheet 74 = .ok (.iinc 4 1, 3) := by decide +kernel
theorem dX8_sheet_77 : decode cX8_sheet 77 = .ok (.goto (-22), 3) := by decide +kernel
theorem dX8_sheet_80 : decode cX8_sheet 80 = .ok (.iload_n 3, 1) := by decide +kernel
theorem dX8_sheet_81 : decode cX8_sheet 81 = .ok (.ireturn, 1) := by decide +kernel
theorem dX8_lose_0 : decode cX8_lose 0 = .ok (.iload_n 1, 1) := by decide +kernel
theorem dX8_lose_1 : decode cX8_lose 1 = .ok (.invokestatic 85, 3) := by decide +kernel
theorem dX8_lose_4 : decode cX8_lose 4 = .ok (.ifCond .ne 6, 3) := by decide +kernel
theorem dX8_lose_7 : decode cX8_lose 7 = .ok (.bipush (-2), 2) := by decide +kernel
theorem dX8_lose_9 : decode cX8_lose 9 = .ok (.ireturn, 1) := by decide +kernel
theorem dX8_lose_10 : decode cX8_lose 10 = .ok (.aload_n 0, 1) := by decide +kernel
theorem dX8_lose_11 : decode cX8_lose 11 = .ok (.getfield 7, 3) := by decide +kernel
theorem dX8_lose_14 : decode cX8_lose 14 = .ok (.iload_n 1, 1) := by decide +kernel
theorem dX8_lose_15 : decode cX8_lose 15 = .ok (.iaload, 1) := by decide +kernel
theorem dX8_lose_16 : decode cX8_lose 16 = .ok (.ifCond .ge 9, 3) := by decide +kernel
theorem dX8_lose_19 : decode cX8_lose 19 = .ok (.aload_n 0, 1) := by decide +kernel
theorem dX8_lose_20 : decode cX8_lose 20 = .ok (.iconst 1, 1) := by decide +kernel
theorem dX8_lose_21 : decode cX8_lose 21 = .ok (.invokevirtual 91, 3) := by decide +kernel
theorem dX8_lose_24 : decode cX8_lose 24 = .ok (.ireturn, 1) := by decide +kernel
theorem dX8_lose_25 : decode cX8_lose 25 = .ok (.aload_n 0, 1) := by decide +kernel
theorem dX8_lose_26 : decode cX8_lose 26 = .ok (.getfield 7, 3) := by decide +kernel
theorem dX8_lose_29 : decode cX8_lose 29 = .ok (.iload_n 1, 1) := by decide +kernel
theorem dX8_lose_30 : decode cX8_lose 30 = .ok (.iconst (-1), 1) := by decide +kernel
theorem dX8_lose_31 : decode cX8_lose 31 = .ok (.iastore, 1) := by decide +kernel
theorem dX8_lose_32 : decode cX8_lose 32 = .ok (.aload_n 0, 1) := by decide +kernel
theorem dX8_lose_33 : decode cX8_lose 33 = .ok (.getfield 13, 3) := by decide +kernel
theorem dX8_lose_36 : decode cX8_lose 36 = .ok (.iload_n 1, 1) := by decide +kernel
theorem dX8_lose_37 : decode cX8_lose 37 = .ok (.iaload, 1) := by decide +kernel
theorem dX8_lose_38 : decode cX8_lose 38 = .ok (.ireturn, 1) := by decide +kernel
theorem dX8_lacks_0 : decode cX8_lacks 0 = .ok (.aload_n 0, 1) := by decide +kernel
theorem dX8_lacks_1 : decode cX8_lacks 1 = .ok (.getfield 7, 3) := by decide +kernel
theorem dX8_lacks_4 : decode cX8_lacks 4 = .ok (.iload_n 1, 1) := by decide +kernel
theorem dX8_lacks_5 : decode cX8_lacks 5 = .ok (.iaload, 1) := by decide +kernel
theorem dX8_lacks_6 : decode cX8_lacks 6 = .ok (.ifCond .ge 9, 3) := by decide +kernel
theorem dX8_lacks_9 : decode cX8_lacks 9 = .ok (.aload_n 0, 1) := by decide +kernel
theorem dX8_lacks_10 : decode cX8_lacks 10 = .ok (.iconst 1, 1) := by decide +kernel
theorem dX8_lacks_11 : decode cX8_lacks 11 = .ok (.invokevirtual 91, 3) := by decide +kernel
theorem dX8_lacks_14 : decode cX8_lacks 14 = .ok (.ireturn, 1) := by decide +kernel
theorem dX8_lacks_15 : decode cX8_lacks 15 = .ok (.aload_n 0, 1) := by decide +kernel
theorem dX8_lacks_16 : decode cX8_lacks 16 = .ok (.getfield 7, 3) := by decide +kernel
theorem dX8_lacks_19 : decode cX8_lacks 19 = .ok (.iload_n 1, 1) := by decide +kernel
theorem dX8_lacks_20 : decode cX8_lacks 20 = .ok (.iaload, 1) := by decide +kernel
theorem dX8_lacks_21 : decode cX8_lacks 21 = .ok (.iload_n 2, 1) := by decide +kernel
theorem dX8_lacks_22 : decode cX8_lacks 22 = .ok (.if_icmp .eq 9, 3) := by decide +kernel
theorem dX8_lacks_25 : decode cX8_lacks 25 = .ok (.aload_n 0, 1) := by decide +kernel
theorem dX8_lacks_26 : decode cX8_lacks 26 = .ok (.iconst 3, 1) := by decide +kernel
theorem dX8_lacks_27 : decode cX8_lacks 27 = .ok (.invokevirtual 91, 3) := by decide +kernel
theorem dX8_lacks_30 : decode cX8_lacks 30 = .ok (.ireturn, 1) := by decide +kernel
theorem dX8_lacks_31 : decode cX8_lacks 31 = .ok (.iload_n 3, 1) := by decide +kernel
theorem dX8_lacks_32 : decode cX8_lacks 32 = .ok (.i2l, 1) := by decide +kernel
theorem dX8_lacks_33 : decode cX8_lacks 33 = .ok (.lconst 0, 1) := by decide +kernel
theorem dX8_lacks_34 : decode cX8_lacks 34 = .ok (.aload_n 0, 1) := by decide +kernel
theorem dX8_lacks_35 : decode cX8_lacks 35 = .ok (.getfield 13, 3) := by decide +kernel
theorem dX8_lacks_38 : decode cX8_lacks 38 = .ok (.iload_n 1, 1) := by decide +kernel
theorem dX8_lacks_39 : decode cX8_lacks 39 = .ok (.iaload, 1) := by decide +kernel
theorem dX8_lacks_40 : decode cX8_lacks 40 = .ok (.iconst 1, 1) := by decide +kernel
theorem dX8_lacks_41 : decode cX8_lacks 41 = .ok (.isub, 1) := by decide +kernel
theorem dX8_lacks_42 : decode cX8_lacks 42 = .ok (.i2l, 1) := by decide +kernel
theorem dX8_lacks_43 : decode cX8_lacks 43 = .ok (.invokestatic 76, 3) := by decide +kernel
theorem dX8_lacks_46 : decode cX8_lacks 46 = .ok (.ifCond .eq 7, 3) := by decide +kernel
theorem dX8_lacks_49 : decode cX8_lacks 49 = .ok (.iconst 0, 1) := by decide +kernel
theorem dX8_lacks_50 : decode cX8_lacks 50 = .ok (.goto 8, 3) := by decide +kernel
theorem dX8_lacks_53 : decode cX8_lacks 53 = .ok (.aload_n 0, 1) := by decide +kernel
theorem dX8_lacks_54 : decode cX8_lacks 54 = .ok (.iconst 2, 1) := by decide +kernel
theorem dX8_lacks_55 : decode cX8_lacks 55 = .ok (.invokevirtual 91, 3) := by decide +kernel
theorem dX8_lacks_58 : decode cX8_lacks 58 = .ok (.ireturn, 1) := by decide +kernel
theorem dX8_cut_0 : decode cX8_cut 0 = .ok (.iload_n 0, 1) := by decide +kernel
theorem dX8_cut_1 : decode cX8_cut 1 = .ok (.ifCond .ne 8, 3) := by decide +kernel
theorem dX8_cut_4 : decode cX8_cut 4 = .ok (.iload_n 1, 1) := by decide +kernel
theorem dX8_cut_5 : decode cX8_cut 5 = .ok (.i2b, 1) := by decide +kernel
theorem dX8_cut_6 : decode cX8_cut 6 = .ok (.goto 14, 3) := by decide +kernel
theorem dX8_cut_9 : decode cX8_cut 9 = .ok (.iload_n 0, 1) := by decide +kernel
theorem dX8_cut_10 : decode cX8_cut 10 = .ok (.iconst 1, 1) := by decide +kernel
theorem dX8_cut_11 : decode cX8_cut 11 = .ok (.if_icmp .ne 8, 3) := by decide +kernel
theorem dX8_cut_14 : decode cX8_cut 14 = .ok (.iload_n 1, 1) := by decide +kernel
theorem dX8_cut_15 : decode cX8_cut 15 = .ok (.i2s, 1) := by decide +kernel
theorem dX8_cut_16 : decode cX8_cut 16 = .ok (.goto 4, 3) := by decide +kernel
theorem dX8_cut_19 : decode cX8_cut 19 = .ok (.iload_n 1, 1) := by decide +kernel
theorem dX8_cut_20 : decode cX8_cut 20 = .ok (.ireturn, 1) := by decide +kernel
theorem dX8_lay_0 : decode cX8_lay 0 = .ok (.iload_n 1, 1) := by decide +kernel
theorem dX8_lay_1 : decode cX8_lay 1 = .ok (.invokestatic 85, 3) := by decide +kernel
theorem dX8_lay_4 : decode cX8_lay 4 = .ok (.ifCond .eq 15, 3) := by decide +kernel
theorem dX8_lay_7 : decode cX8_lay 7 = .ok (.iload_n 2, 1) := by decide +kernel
theorem dX8_lay_8 : decode cX8_lay 8 = .ok (.i2l, 1) := by decide +kernel
theorem dX8_lay_9 : decode cX8_lay 9 = .ok (.lconst 0, 1) := by decide +kernel
theorem dX8_lay_10 : decode cX8_lay 10 = .ok (.ldc2_w 89, 3) := by decide +kernel
theorem dX8_lay_13 : decode cX8_lay 13 = .ok (.invokestatic 76, 3) := by decide +kernel
theorem dX8_lay_16 : decode cX8_lay 16 = .ok (.ifCond .ne 6, 3) := by decide +kernel
theorem dX8_lay_19 : decode cX8_lay 19 = .ok (.bipush (-2), 2) := by decide +kernel
theorem dX8_lay_21 : decode cX8_lay 21 = .ok (.ireturn, 1) := by decide +kernel
theorem dX8_lay_22 : decode cX8_lay 22 = .ok (.aload_n 0, 1) := by decide +kernel
theorem dX8_lay_23 : decode cX8_lay 23 = .ok (.iload_n 1, 1) := by decide +kernel
theorem dX8_lay_24 : decode cX8_lay 24 = .ok (.iload_n 2, 1) := by decide +kernel
theorem dX8_lay_25 : decode cX8_lay 25 = .ok (.iload_n 3, 1) := by decide +kernel
theorem dX8_lay_26 : decode cX8_lay 26 = .ok (.invokevirtual 95, 3) := by decide +kernel
theorem dX8_lay_29 : decode cX8_lay 29 = .ok (.istore 5, 2) := by decide +kernel
theorem dX8_lay_31 : decode cX8_lay 31 = .ok (.iload 5, 2) := by decide +kernel
theorem dX8_lay_33 : decode cX8_lay 33 = .ok (.ifCond .eq 6, 3) := by decide +kernel
theorem dX8_lay_36 : decode cX8_lay 36 = .ok (.iload 5, 2) := by decide +kernel
theorem dX8_lay_38 : decode cX8_lay 38 = .ok (.ireturn, 1) := by decide +kernel
theorem dX8_lay_39 : decode cX8_lay 39 = .ok (.aload_n 0, 1) := by decide +kernel
theorem dX8_lay_40 : decode cX8_lay 40 = .ok (.getfield 16, 3) := by decide +kernel
theorem dX8_lay_43 : decode cX8_lay 43 = .ok (.bipush 60, 2) := by decide +kernel
theorem dX8_lay_45 : decode cX8_lay 45 = .ok (.iload_n 1, 1) := by decide +kernel
theorem dX8_lay_46 : decode cX8_lay 46 = .ok (.imul, 1) := by decide +kernel
theorem dX8_lay_47 : decode cX8_lay 47 = .ok (.iload_n 3, 1) := by decide +kernel
theorem dX8_lay_48 : decode cX8_lay 48 = .ok (.iadd, 1) := by decide +kernel
theorem dX8_lay_49 : decode cX8_lay 49 = .ok (.iload_n 2, 1) := by decide +kernel
theorem dX8_lay_50 : decode cX8_lay 50 = .ok (.iload 4, 2) := by decide +kernel
theorem dX8_lay_52 : decode cX8_lay 52 = .ok (.invokestatic 99, 3) := by decide +kernel
theorem dX8_lay_55 : decode cX8_lay 55 = .ok (.iastore, 1) := by decide +kernel
theorem dX8_lay_56 : decode cX8_lay 56 = .ok (.iconst 1, 1) := by decide +kernel
theorem dX8_lay_57 : decode cX8_lay 57 = .ok (.ireturn, 1) := by decide +kernel
theorem dX8_get_0 : decode cX8_get 0 = .ok (.iload_n 1, 1) := by decide +kernel
theorem dX8_get_1 : decode cX8_get 1 = .ok (.invokestatic 85, 3) := by decide +kernel
theorem dX8_get_4 : decode cX8_get 4 = .ok (.ifCond .eq 25, 3) := by decide +kernel
theorem dX8_get_7 : decode cX8_get 7 = .ok (.iload_n 2, 1) := by decide +kernel
theorem dX8_get_8 : decode cX8_get 8 = .ok (.i2l, 1) := by decide +kernel
theorem dX8_get_9 : decode cX8_get 9 = .ok (.lconst 0, 1) := by decide +kernel
theorem dX8_get_10 : decode cX8_get 10 = .ok (.ldc2_w 89, 3) := by decide +kernel
theorem dX8_get_13 : decode cX8_get 13 = .ok (.invokestatic 76, 3) := by decide +kernel
theorem dX8_get_16 : decode cX8_get 16 = .ok (.ifCond .eq 13, 3) := by decide +kernel
theorem dX8_get_19 : decode cX8_get 19 = .ok (.aload_n 0, 1) := by decide +kernel
theorem dX8_get_20 : decode cX8_get 20 = .ok (.iload_n 1, 1) := by decide +kernel
theorem dX8_get_21 : decode cX8_get 21 = .ok (.iload_n 2, 1) := by decide +kernel
theorem dX8_get_22 : decode cX8_get 22 = .ok (.iload_n 3, 1) := by decide +kernel
theorem dX8_get_23 : decode cX8_get 23 = .ok (.invokevirtual 95, 3) := by decide +kernel
theorem dX8_get_26 : decode cX8_get 26 = .ok (.ifCond .eq 6, 3) := by decide +kernel
theorem dX8_get_29 : decode cX8_get 29 = .ok (.ldc 103, 2) := by decide +kernel
theorem dX8_get_31 : decode cX8_get 31 = .ok (.ireturn, 1) := by decide +kernel
theorem dX8_get_32 : decode cX8_get 32 = .ok (.aload_n 0, 1) := by decide +kernel
theorem dX8_get_33 : decode cX8_get 33 = .ok (.getfield 16, 3) := by decide +kernel
theorem dX8_get_36 : decode cX8_get 36 = .ok (.bipush 60, 2) := by decide +kernel
theorem dX8_get_38 : decode cX8_get 38 = .ok (.iload_n 1, 1) := by decide +kernel
theorem dX8_get_39 : decode cX8_get 39 = .ok (.imul, 1) := by decide +kernel
theorem dX8_get_40 : decode cX8_get 40 = .ok (.iload_n 3, 1) := by decide +kernel
theorem dX8_get_41 : decode cX8_get 41 = .ok (.iadd, 1) := by decide +kernel
theorem dX8_get_42 : decode cX8_get 42 = .ok (.iaload, 1) := by decide +kernel
theorem dX8_get_43 : decode cX8_get 43 = .ok (.ireturn, 1) := by decide +kernel
theorem dX8_copy_0 : decode cX8_copy 0 = .ok (.iload_n 1, 1) := by decide +kernel
theorem dX8_copy_1 : decode cX8_copy 1 = .ok (.invokestatic 85, 3) := by decide +kernel
theorem dX8_copy_4 : decode cX8_copy 4 = .ok (.ifCond .eq 10, 3) := by decide +kernel
theorem dX8_copy_7 : decode cX8_copy 7 = .ok (.iload_n 3, 1) := by decide +kernel
theorem dX8_copy_8 : decode cX8_copy 8 = .ok (.invokestatic 85, 3) := by decide +kernel
theorem dX8_copy_11 : decode cX8_copy 11 = .ok (.ifCond .ne 6, 3) := by decide +kernel
theorem dX8_copy_14 : decode cX8_copy 14 = .ok (.bipush (-2), 2) := by decide +kernel
theorem dX8_copy_16 : decode cX8_copy 16 = .ok (.ireturn, 1) := by decide +kernel
theorem dX8_copy_17 : decode cX8_copy 17 = .ok (.aload_n 0, 1) := by decide +kernel
theorem dX8_copy_18 : decode cX8_copy 18 = .ok (.getfield 7, 3) := by decide +kernel
theorem dX8_copy_21 : decode cX8_copy 21 = .ok (.iload_n 1, 1) := by decide +kernel
theorem dX8_copy_22 : decode cX8_copy 22 = .ok (.iaload, 1) := by decide +kernel
theorem dX8_copy_23 : decode cX8_copy 23 = .ok (.ifCond .lt 12, 3) := by decide +kernel
theorem dX8_copy_26 : decode cX8_copy 26 = .ok (.aload_n 0, 1) := by decide +kernel
theorem dX8_copy_27 : decode cX8_copy 27 = .ok (.getfield 7, 3) := by decide +kernel
theorem dX8_copy_30 : decode cX8_copy 30 = .ok (.iload_n 3, 1) := by decide +kernel
theorem dX8_copy_31 : decode cX8_copy 31 = .ok (.iaload, 1) := by decide +kernel
theorem dX8_copy_32 : decode cX8_copy 32 = .ok (.ifCond .ge 9, 3) := by decide +kernel
theorem dX8_copy_35 : decode cX8_copy 35 = .ok (.aload_n 0, 1) := by decide +kernel
theorem dX8_copy_36 : decode cX8_copy 36 = .ok (.iconst 1, 1) := by decide +kernel
theorem dX8_copy_37 : decode cX8_copy 37 = .ok (.invokevirtual 91, 3) := by decide +kernel
theorem dX8_copy_40 : decode cX8_copy 40 = .ok (.ireturn, 1) := by decide +kernel
theorem dX8_copy_41 : decode cX8_copy 41 = .ok (.aload_n 0, 1) := by decide +kernel
theorem dX8_copy_42 : decode cX8_copy 42 = .ok (.getfield 7, 3) := by decide +kernel
theorem dX8_copy_45 : decode cX8_copy 45 = .ok (.iload_n 1, 1) := by decide +kernel
theorem dX8_copy_46 : decode cX8_copy 46 = .ok (.iaload, 1) := by decide +kernel
theorem dX8_copy_47 : decode cX8_copy 47 = .ok (.aload_n 0, 1) := by decide +kernel
theorem dX8_copy_48 : decode cX8_copy 48 = .ok (.getfield 7, 3) := by decide +kernel
theorem dX8_copy_51 : decode cX8_copy 51 = .ok (.iload_n 3, 1) := by decide +kernel
theorem dX8_copy_52 : decode cX8_copy 52 = .ok (.iaload, 1) := by decide +kernel
theorem dX8_copy_53 : decode cX8_copy 53 = .ok (.if_icmp .eq 9, 3) := by decide +kernel
theorem dX8_copy_56 : decode cX8_copy 56 = .ok (.aload_n 0, 1) := by decide +kernel
theorem dX8_copy_57 : decode cX8_copy 57 = .ok (.iconst 4, 1) := by decide +kernel
theorem dX8_copy_58 : decode cX8_copy 58 = .ok (.invokevirtual 91, 3) := by decide +kernel
theorem dX8_copy_61 : decode cX8_copy 61 = .ok (.ireturn, 1) := by decide +kernel
theorem dX8_copy_62 : decode cX8_copy 62 = .ok (.iload_n 2, 1) := by decide +kernel
theorem dX8_copy_63 : decode cX8_copy 63 = .ok (.ifCond .lt 48, 3) := by decide +kernel
theorem dX8_copy_66 : decode cX8_copy 66 = .ok (.iload 4, 2) := by decide +kernel
theorem dX8_copy_68 : decode cX8_copy 68 = .ok (.ifCond .lt 43, 3) := by decide +kernel
theorem dX8_copy_71 : decode cX8_copy 71 = .ok (.iload 5, 2) := by decide +kernel
theorem dX8_copy_73 : decode cX8_copy 73 = .ok (.ifCond .lt 38, 3) := by decide +kernel
theorem dX8_copy_76 : decode cX8_copy 76 = .ok (.iload_n 2, 1) := by decide +kernel
theorem dX8_copy_77 : decode cX8_copy 77 = .ok (.i2l, 1) := by decide +kernel
theorem dX8_copy_78 : decode cX8_copy 78 = .ok (.iload 5, 2) := by decide +kernel
theorem dX8_copy_80 : decode cX8_copy 80 = .ok (.i2l, 1) := by decide +kernel
theorem dX8_copy_81 : decode cX8_copy 81 = .ok (.ladd, 1) := by decide +kernel
theorem dX8_copy_82 : decode cX8_copy 82 = .ok (.aload_n 0, 1) := by decide +kernel
theorem dX8_copy_83 : decode cX8_copy 83 = .ok (.getfield 13, 3) := by decide +kernel
theorem dX8_copy_86 : decode cX8_copy 86 = .ok (.iload_n 1, 1) := by decide +kernel
theorem dX8_copy_87 : decode cX8_copy 87 = .ok (.iaload, 1) := by decide +kernel
theorem dX8_copy_88 : decode cX8_copy 88 = .ok (.i2l, 1) := by decide +kernel
theorem dX8_copy_89 : decode cX8_copy 89 = .ok (.lcmp, 1) := by decide +kernel
theorem dX8_copy_90 : decode cX8_copy 90 = .ok (.ifCond .gt 21, 3) := by decide +kernel
theorem dX8_copy_93 : decode cX8_copy 93 = .ok (.iload 4, 2) := by decide +kernel
theorem dX8_copy_95 : decode cX8_copy 95 = .ok (.i2l, 1) := by decide +kernel
theorem dX8_copy_96 : decode cX8_copy 96 = .ok (.iload 5, 2) := by decide +kernel
theorem dX8_copy_98 : decode cX8_copy 98 = .ok (.i2l, 1) := by decide +kernel
theorem dX8_copy_99 : decode cX8_copy 99 = .ok (.ladd, 1) := by decide +kernel
theorem dX8_copy_100 : decode cX8_copy 100 = .ok (.aload_n 0, 1) := by decide +kernel
theorem dX8_copy_101 : decode cX8_copy 101 = .ok (.getfield 13, 3) := by decide +kernel
theorem dX8_copy_104 : decode cX8_copy 104 = .ok (.iload_n 3, 1) := by decide +kernel
theorem dX8_copy_105 : decode cX8_copy 105 = .ok (.iaload, 1) := by decide +kernel
theorem dX8_copy_106 : decode cX8_copy 106 = .ok (.i2l, 1) := by decide +kernel
theorem dX8_copy_107 : decode cX8_copy 107 = .ok (.lcmp, 1) := by decide +kernel
theorem dX8_copy_108 : decode cX8_copy 108 = .ok (.ifCond .le 9, 3) := by decide +kernel
theorem dX8_copy_111 : decode cX8_copy 111 = .ok (.aload_n 0, 1) := by decide +kernel
theorem dX8_copy_112 : decode cX8_copy 112 = .ok (.iconst 2, 1) := by decide +kernel
theorem dX8_copy_113 : decode cX8_copy 113 = .ok (.invokevirtual 91, 3) := by decide +kernel
theorem dX8_copy_116 : decode cX8_copy 116 = .ok (.ireturn, 1) := by decide +kernel
theorem dX8_copy_117 : decode cX8_copy 117 = .ok (.iconst 0, 1) := by decide +kernel
theorem dX8_copy_118 : decode cX8_copy 118 = .ok (.istore 6, 2) := by decide +kernel
theorem dX8_copy_120 : decode cX8_copy 120 = .ok (.iload 6, 2) := by decide +kernel
theorem dX8_copy_122 : decode cX8_copy 122 = .ok (.iload 5, 2) := by decide +kernel
theorem dX8_copy_124 : decode cX8_copy 124 = .ok (.if_icmp .ge 30, 3) := by decide +kernel
theorem dX8_copy_127 : decode cX8_copy 127 = .ok (.aload_n 0, 1) := by decide +kernel
theorem dX8_copy_128 : decode cX8_copy 128 = .ok (.getfield 19, 3) := by decide +kernel
theorem dX8_copy_131 : decode cX8_copy 131 = .ok (.iload 6, 2) := by decide +kernel
theorem dX8_copy_133 : decode cX8_copy 133 = .ok (.aload_n 0, 1) := by decide +kernel
theorem dX8_copy_134 : decode cX8_copy 134 = .ok (.getfield 16, 3) := by decide +kernel
theorem dX8_copy_137 : decode cX8_copy 137 = .ok (.bipush 60, 2) := by decide +kernel
theorem dX8_copy_139 : decode cX8_copy 139 = .ok (.iload_n 1, 1) := by decide +kernel
theorem dX8_copy_140 : decode cX8_copy 140 = .ok (.imul, 1) := by decide +kernel
theorem dX8_copy_141 : decode cX8_copy 141 = .ok (.iload_n 2, 1) := by decide +kernel
theorem dX8_copy_142 : decode cX8_copy 142 = .ok (.iadd, 1) := by decide +kernel
theorem dX8_copy_143 : decode cX8_copy 143 = .ok (.iload 6, 2) := by decide +kernel
theorem dX8_copy_145 : decode cX8_copy 145 = .ok (.iadd, 1) := by decide +kernel
theorem dX8_copy_146 : decode cX8_copy 146 = .ok (.iaload, 1) := by decide +kernel
theorem dX8_copy_147 : decode cX8_copy 147 = .ok (.iastore, 1) := by decide +kernel
theorem dX8_copy_148 : decode cX8_copy 148 = .ok (.iinc 6 1, 3) := by decide +kernel
theorem dX8_copy_151 : decode cX8_copy 151 = .ok (.goto (-31), 3) := by decide +kernel
theorem dX8_copy_154 : decode cX8_copy 154 = .ok (.iconst 0, 1) := by decide +kernel
theorem dX8_copy_155 : decode cX8_copy 155 = .ok (.istore 6, 2) := by decide +kernel
theorem dX8_copy_157 : decode cX8_copy 157 = .ok (.iload 6, 2) := by decide +kernel
theorem dX8_copy_159 : decode cX8_copy 159 = .ok (.iload 5, 2) := by decide +kernel
theorem dX8_copy_161 : decode cX8_copy 161 = .ok (.if_icmp .ge 31, 3) := by decide +kernel
theorem dX8_copy_164 : decode cX8_copy 164 = .ok (.aload_n 0, 1) := by decide +kernel
theorem dX8_copy_165 : decode cX8_copy 165 = .ok (.getfield 16, 3) := by decide +kernel
theorem dX8_copy_168 : decode cX8_copy 168 = .ok (.bipush 60, 2) := by decide +kernel
theorem dX8_copy_170 : decode cX8_copy 170 = .ok (.iload_n 3, 1) := by decide +kernel
theorem dX8_copy_171 : decode cX8_copy 171 = .ok (.imul, 1) := by decide +kernel
theorem dX8_copy_172 : decode cX8_copy 172 = .ok (.iload 4, 2) := by decide +kernel
theorem dX8_copy_174 : decode cX8_copy 174 = .ok (.iadd, 1) := by decide +kernel
theorem dX8_copy_175 : decode cX8_copy 175 = .ok (.iload 6, 2) := by decide +kernel
theorem dX8_copy_177 : decode cX8_copy 177 = .ok (.iadd, 1) := by decide +kernel
theorem dX8_copy_178 : decode cX8_copy 178 = .ok (.aload_n 0, 1) := by decide +kernel
theorem dX8_copy_179 : decode cX8_copy 179 = .ok (.getfield 19, 3) := by decide +kernel
theorem dX8_copy_182 : decode cX8_copy 182 = .ok (.iload 6, 2) := by decide +kernel
theorem dX8_copy_184 : decode cX8_copy 184 = .ok (.iaload, 1) := by decide +kernel
theorem dX8_copy_185 : decode cX8_copy 185 = .ok (.iastore, 1) := by decide +kernel
theorem dX8_copy_186 : decode cX8_copy 186 = .ok (.iinc 6 1, 3) := by decide +kernel
theorem dX8_copy_189 : decode cX8_copy 189 = .ok (.goto (-32), 3) := by decide +kernel
theorem dX8_copy_192 : decode cX8_copy 192 = .ok (.iconst 1, 1) := by decide +kernel
theorem dX8_copy_193 : decode cX8_copy 193 = .ok (.ireturn, 1) := by decide +kernel
theorem dX8_type_0 : decode cX8_type 0 = .ok (.iload_n 1, 1) := by decide +kernel
theorem dX8_type_1 : decode cX8_type 1 = .ok (.invokestatic 104, 3) := by decide +kernel
theorem dX8_type_4 : decode cX8_type 4 = .ok (.ifCond .eq 15, 3) := by decide +kernel
theorem dX8_type_7 : decode cX8_type 7 = .ok (.iload_n 2, 1) := by decide +kernel
theorem dX8_type_8 : decode cX8_type 8 = .ok (.i2l, 1) := by decide +kernel
theorem dX8_type_9 : decode cX8_type 9 = .ok (.lconst 0, 1) := by decide +kernel
theorem dX8_type_10 : decode cX8_type 10 = .ok (.ldc2_w 107, 3) := by decide +kernel
theorem dX8_type_13 : decode cX8_type 13 = .ok (.invokestatic 76, 3) := by decide +kernel
theorem dX8_type_16 : decode cX8_type 16 = .ok (.ifCond .ne 6, 3) := by decide +kernel
theorem dX8_type_19 : decode cX8_type 19 = .ok (.bipush (-2), 2) := by decide +kernel
theorem dX8_type_21 : decode cX8_type 21 = .ok (.ireturn, 1) := by decide +kernel
theorem dX8_type_22 : decode cX8_type 22 = .ok (.aload_n 0, 1) := by decide +kernel
theorem dX8_type_23 : decode cX8_type 23 = .ok (.getfield 25, 3) := by decide +kernel
theorem dX8_type_26 : decode cX8_type 26 = .ok (.iload_n 1, 1) := by decide +kernel
theorem dX8_type_27 : decode cX8_type 27 = .ok (.iaload, 1) := by decide +kernel
theorem dX8_type_28 : decode cX8_type 28 = .ok (.iload_n 1, 1) := by decide +kernel
theorem dX8_type_29 : decode cX8_type 29 = .ok (.ifCond .ne 8, 3) := by decide +kernel
theorem dX8_type_32 : decode cX8_type 32 = .ok (.bipush 39, 2) := by decide +kernel
theorem dX8_type_34 : decode cX8_type 34 = .ok (.goto 5, 3) := by decide +kernel
theorem dX8_type_37 : decode cX8_type 37 = .ok (.bipush 16, 2) := by decide +kernel
theorem dX8_type_39 : decode cX8_type 39 = .ok (.if_icmp .ne 6, 3) := by decide +kernel
theorem dX8_type_42 : decode cX8_type 42 = .ok (.bipush (-4), 2) := by decide +kernel
theorem dX8_type_44 : decode cX8_type 44 = .ok (.ireturn, 1) := by decide +kernel
theorem dX8_type_45 : decode cX8_type 45 = .ok (.aload_n 0, 1) := by decide +kernel
theorem dX8_type_46 : decode cX8_type 46 = .ok (.getfield 22, 3) := by decide +kernel
theorem dX8_type_49 : decode cX8_type 49 = .ok (.bipush 40, 2) := by decide +kernel
theorem dX8_type_51 : decode cX8_type 51 = .ok (.iload_n 1, 1) := by decide +kernel
theorem dX8_type_52 : decode cX8_type 52 = .ok (.imul, 1) := by decide +kernel
theorem dX8_type_53 : decode cX8_type 53 = .ok (.aload_n 0, 1) := by decide +kernel
theorem dX8_type_54 : decode cX8_type 54 = .ok (.getfield 25, 3) := by decide +kernel
theorem dX8_type_57 : decode cX8_type 57 = .ok (.iload_n 1, 1) := by decide +kernel
theorem dX8_type_58 : decode cX8_type 58 = .ok (.iaload, 1) := by decide +kernel
theorem dX8_type_59 : decode cX8_type 59 = .ok (.iadd, 1) := by decide +kernel
theorem dX8_type_60 : decode cX8_type 60 = .ok (.iload_n 2, 1) := by decide +kernel
theorem dX8_type_61 : decode cX8_type 61 = .ok (.iastore, 1) := by decide +kernel
theorem dX8_type_62 : decode cX8_type 62 = .ok (.aload_n 0, 1) := by decide +kernel
theorem dX8_type_63 : decode cX8_type 63 = .ok (.getfield 25, 3) := by decide +kernel
theorem dX8_type_66 : decode cX8_type 66 = .ok (.iload_n 1, 1) := by decide +kernel
theorem dX8_type_67 : decode cX8_type 67 = .ok (.dup2, 1) := by decide +kernel
theorem dX8_type_68 : decode cX8_type 68 = .ok (.iaload, 1) := by decide +kernel
theorem dX8_type_69 : decode cX8_type 69 = .ok (.iconst 1, 1) := by decide +kernel
theorem dX8_type_70 : decode cX8_type 70 = .ok (.iadd, 1) := by decide +kernel
theorem dX8_type_71 : decode cX8_type 71 = .ok (.iastore, 1) := by decide +kernel
theorem dX8_type_72 : decode cX8_type 72 = .ok (.aload_n 0, 1) := by decide +kernel
theorem dX8_type_73 : decode cX8_type 73 = .ok (.getfield 25, 3) := by decide +kernel
theorem dX8_type_76 : decode cX8_type 76 = .ok (.iload_n 1, 1) := by decide +kernel
theorem dX8_type_77 : decode cX8_type 77 = .ok (.iaload, 1) := by decide +kernel
theorem dX8_type_78 : decode cX8_type 78 = .ok (.ireturn, 1) := by decide +kernel
theorem dX8_wipe_0 : decode cX8_wipe 0 = .ok (.iload_n 1, 1) := by decide +kernel
theorem dX8_wipe_1 : decode cX8_wipe 1 = .ok (.invokestatic 104, 3) := by decide +kernel
theorem dX8_wipe_4 : decode cX8_wipe 4 = .ok (.ifCond .ne 6, 3) := by decide +kernel
theorem dX8_wipe_7 : decode cX8_wipe 7 = .ok (.bipush (-2), 2) := by decide +kernel
theorem dX8_wipe_9 : decode cX8_wipe 9 = .ok (.ireturn, 1) := by decide +kernel
theorem dX8_wipe_10 : decode cX8_wipe 10 = .ok (.aload_n 0, 1) := by decide +kernel
theorem dX8_wipe_11 : decode cX8_wipe 11 = .ok (.getfield 25, 3) := by decide +kernel
theorem dX8_wipe_14 : decode cX8_wipe 14 = .ok (.iload_n 1, 1) := by decide +kernel
theorem dX8_wipe_15 : decode cX8_wipe 15 = .ok (.iaload, 1) := by decide +kernel
theorem dX8_wipe_16 : decode cX8_wipe 16 = .ok (.istore_n 2, 1) := by decide +kernel
theorem dX8_wipe_17 : decode cX8_wipe 17 = .ok (.aload_n 0, 1) := by decide +kernel
theorem dX8_wipe_18 : decode cX8_wipe 18 = .ok (.getfield 25, 3) := by decide +kernel
theorem dX8_wipe_21 : decode cX8_wipe 21 = .ok (.iload_n 1, 1) := by decide +kernel
theorem dX8_wipe_22 : decode cX8_wipe 22 = .ok (.iconst 0, 1) := by decide +kernel
theorem dX8_wipe_23 : decode cX8_wipe 23 = .ok (.iastore, 1) := by decide +kernel
theorem dX8_wipe_24 : decode cX8_wipe 24 = .ok (.iload_n 2, 1) := by decide +kernel
theorem dX8_wipe_25 : decode cX8_wipe 25 = .ok (.ireturn, 1) := by decide +kernel
theorem dX8_undo_0 : decode cX8_undo 0 = .ok (.iload_n 1, 1) := by decide +kernel
theorem dX8_undo_1 : decode cX8_undo 1 = .ok (.invokestatic 104, 3) := by decide +kernel
theorem dX8_undo_4 : decode cX8_undo 4 = .ok (.ifCond .ne 6, 3) := by decide +kernel
theorem dX8_undo_7 : decode cX8_undo 7 = .ok (.bipush (-2), 2) := by decide +kernel
theorem dX8_undo_9 : decode cX8_undo 9 = .ok (.ireturn, 1) := by decide +kernel
theorem dX8_undo_10 : decode cX8_undo 10 = .ok (.aload_n 0, 1) := by decide +kernel
theorem dX8_undo_11 : decode cX8_undo 11 = .ok (.getfield 25, 3) := by decide +kernel
theorem dX8_undo_14 : decode cX8_undo 14 = .ok (.iload_n 1, 1) := by decide +kernel
theorem dX8_undo_15 : decode cX8_undo 15 = .ok (.iaload, 1) := by decide +kernel
theorem dX8_undo_16 : decode cX8_undo 16 = .ok (.ifCond .ne 6, 3) := by decide +kernel
theorem dX8_undo_19 : decode cX8_undo 19 = .ok (.bipush (-3), 2) := by decide +kernel
theorem dX8_undo_21 : decode cX8_undo 21 = .ok (.ireturn, 1) := by decide +kernel
theorem dX8_undo_22 : decode cX8_undo 22 = .ok (.aload_n 0, 1) := by decide +kernel
theorem dX8_undo_23 : decode cX8_undo 23 = .ok (.getfield 25, 3) := by decide +kernel
theorem dX8_undo_26 : decode cX8_undo 26 = .ok (.iload_n 1, 1) := by decide +kernel
theorem dX8_undo_27 : decode cX8_undo 27 = .ok (.dup2, 1) := by decide +kernel
theorem dX8_undo_28 : decode cX8_undo 28 = .ok (.iaload, 1) := by decide +kernel
theorem dX8_undo_29 : decode cX8_undo 29 = .ok (.iconst 1, 1) := by decide +kernel
theorem dX8_undo_30 : decode cX8_undo 30 = .ok (.isub, 1) := by decide +kernel
theorem dX8_undo_31 : decode cX8_undo 31 = .ok (.iastore, 1) := by decide +kernel
theorem dX8_undo_32 : decode cX8_undo 32 = .ok (.aload_n 0, 1) := by decide +kernel
theorem dX8_undo_33 : decode cX8_undo 33 = .ok (.getfield 25, 3) := by decide +kernel
theorem dX8_undo_36 : decode cX8_undo 36 = .ok (.iload_n 1, 1) := by decide +kernel
theorem dX8_undo_37 : decode cX8_undo 37 = .ok (.iaload, 1) := by decide +kernel
theorem dX8_undo_38 : decode cX8_undo 38 = .ok (.ireturn, 1) := by decide +kernel
theorem dX8_letterOf_0 : decode cX8_letterOf 0 = .ok (.iload_n 0, 1) := by decide +kernel
theorem dX8_letterOf_1 : decode cX8_letterOf 1 = .ok (.i2l, 1) := by decide +kernel
theorem dX8_letterOf_2 : decode cX8_letterOf 2 = .ok (.ldc2_w 109, 3) := by decide +kernel
theorem dX8_letterOf_5 : decode cX8_letterOf 5 = .ok (.ldc2_w 111, 3) := by decide +kernel
theorem dX8_letterOf_8 : decode cX8_letterOf 8 = .ok (.invokestatic 76, 3) := by decide +kernel
theorem dX8_letterOf_11 : decode cX8_letterOf 11 = .ok (.ifCond .eq 10, 3) := by decide +kernel
theorem dX8_letterOf_14 : decode cX8_letterOf 14 = .ok (.iload_n 0, 1) := by decide +kernel
theorem dX8_letterOf_15 : decode cX8_letterOf 15 = .ok (.bipush 97, 2) := by decide +kernel
theorem dX8_letterOf_17 : decode cX8_letterOf 17 = .ok (.isub, 1) := by decide +kernel
theorem dX8_letterOf_18 : decode cX8_letterOf 18 = .ok (.goto 5, 3) := by decide +kernel
theorem dX8_letterOf_21 : decode cX8_letterOf 21 = .ok (.bipush (-9), 2) := by decide +kernel
theorem dX8_letterOf_23 : decode cX8_letterOf 23 = .ok (.ireturn, 1) := by decide +kernel
theorem dX8_riderOf_0 : decode cX8_riderOf 0 = .ok (.iload_n 0, 1) := by decide +kernel
theorem dX8_riderOf_1 : decode cX8_riderOf 1 = .ok (.iconst 4, 1) := by decide +kernel
theorem dX8_riderOf_2 : decode cX8_riderOf 2 = .ok (.if_icmp .ne 16, 3) := by decide +kernel
theorem dX8_riderOf_5 : decode cX8_riderOf 5 = .ok (.iload_n 1, 1) := by decide +kernel
theorem dX8_riderOf_6 : decode cX8_riderOf 6 = .ok (.bipush 59, 2) := by decide +kernel
theorem dX8_riderOf_8 : decode cX8_riderOf 8 = .ok (.if_icmp .ne 7, 3) := by decide +kernel
theorem dX8_riderOf_11 : decode cX8_riderOf 11 = .ok (.iconst 0, 1) := by decide +kernel
theorem dX8_riderOf_12 : decode cX8_riderOf 12 = .ok (.goto 5, 3) := by decide +kernel
theorem dX8_riderOf_15 : decode cX8_riderOf 15 = .ok (.bipush (-9), 2) := by decide +kernel
theorem dX8_riderOf_17 : decode cX8_riderOf 17 = .ok (.ireturn, 1) := by decide +kernel
theorem dX8_riderOf_18 : decode cX8_riderOf 18 = .ok (.iload_n 0, 1) := by decide +kernel
theorem dX8_riderOf_19 : decode cX8_riderOf 19 = .ok (.ifCond .eq 8, 3) := by decide +kernel
theorem dX8_riderOf_22 : decode cX8_riderOf 22 = .ok (.iload_n 0, 1) := by decide +kernel
theorem dX8_riderOf_23 : decode cX8_riderOf 23 = .ok (.iconst 3, 1) := by decide +kernel
theorem dX8_riderOf_24 : decode cX8_riderOf 24 = .ok (.if_icmp .ne 10, 3) := by decide +kernel
theorem dX8_riderOf_27 : decode cX8_riderOf 27 = .ok (.iload_n 1, 1) := by decide +kernel
theorem dX8_riderOf_28 : decode cX8_riderOf 28 = .ok (.invokestatic 113, 3) := by decide +kernel
theorem dX8_riderOf_31 : decode cX8_riderOf 31 = .ok (.goto 26, 3) := by decide +kernel
theorem dX8_riderOf_34 : decode cX8_riderOf 34 = .ok (.iload_n 1, 1) := by decide +kernel
theorem dX8_riderOf_35 : decode cX8_riderOf 35 = .ok (.i2l, 1) := by decide +kernel
theorem dX8_riderOf_36 : decode cX8_riderOf 36 = .ok (.ldc2_w 116, 3) := by decide +kernel
theorem dX8_riderOf_39 : decode cX8_riderOf 39 = .ok (.ldc2_w 118, 3) := by decide +kernel
theorem dX8_riderOf_42 : decode cX8_riderOf 42 = .ok (.invokestatic 76, 3) := by decide +kernel
theorem dX8_riderOf_45 : decode cX8_riderOf 45 = .ok (.ifCond .eq 10, 3) := by decide +kernel
theorem dX8_riderOf_48 : decode cX8_riderOf 48 = .ok (.iload_n 1, 1) := by decide +kernel
theorem dX8_riderOf_49 : decode cX8_riderOf 49 = .ok (.bipush 48, 2) := by decide +kernel
theorem dX8_riderOf_51 : decode cX8_riderOf 51 = .ok (.isub, 1) := by decide +kernel
theorem dX8_riderOf_52 : decode cX8_riderOf 52 = .ok (.goto 5, 3) := by decide +kernel
theorem dX8_riderOf_55 : decode cX8_riderOf 55 = .ok (.bipush (-9), 2) := by decide +kernel
theorem dX8_riderOf_57 : decode cX8_riderOf 57 = .ok (.ireturn, 1) := by decide +kernel
theorem dX8_readsRiders_0 : decode cX8_readsRiders 0 = .ok (.aload_n 0, 1) := by decide +kernel
theorem dX8_readsRiders_1 : decode cX8_readsRiders 1 = .ok (.iconst 0, 1) := by decide +kernel
theorem dX8_readsRiders_2 : decode cX8_readsRiders 2 = .ok (.putfield 120, 3) := by decide +kernel
theorem dX8_readsRiders_5 : decode cX8_readsRiders 5 = .ok (.aload_n 0, 1) := by decide +kernel
theorem dX8_readsRiders_6 : decode cX8_readsRiders 6 = .ok (.getfield 25, 3) := by decide +kernel
theorem dX8_readsRiders_9 : decode cX8_readsRiders 9 = .ok (.iconst 0, 1) := by decide +kernel
theorem dX8_readsRiders_10 : decode cX8_readsRiders 10 = .ok (.iaload, 1) := by decide +kernel
theorem dX8_readsRiders_11 : decode cX8_readsRiders 11 = .ok (.istore_n 1, 1) := by decide +kernel
theorem dX8_readsRiders_12 : decode cX8_readsRiders 12 = .ok (.iconst 0, 1) := by decide +kernel
theorem dX8_readsRiders_13 : decode cX8_readsRiders 13 = .ok (.istore_n 2, 1) := by decide +kernel
theorem dX8_readsRiders_14 : decode cX8_readsRiders 14 = .ok (.iload_n 2, 1) := by decide +kernel
theorem dX8_readsRiders_15 : decode cX8_readsRiders 15 = .ok (.iload_n 1, 1) := by decide +kernel
theorem dX8_readsRiders_16 : decode cX8_readsRiders 16 = .ok (.if_icmp .ge 77, 3) := by decide +kernel
theorem dX8_readsRiders_19 : decode cX8_readsRiders 19 = .ok (.iload_n 2, 1) := by decide +kernel
theorem dX8_readsRiders_20 : decode cX8_readsRiders 20 = .ok (.iconst 5, 1) := by decide +kernel
theorem dX8_readsRiders_21 : decode cX8_readsRiders 21 = .ok (.irem, 1) := by decide +kernel
theorem dX8_readsRiders_22 : decode cX8_readsRiders 22 = .ok (.istore_n 3, 1) := by decide +kernel
theorem dX8_readsRiders_23 : decode cX8_readsRiders 23 = .ok (.iload_n 3, 1) := by decide +kernel
theorem dX8_readsRiders_24 : decode cX8_readsRiders 24 = .ok (.aload_n 0, 1) := by decide +kernel
theorem dX8_readsRiders_25 : decode cX8_readsRiders 25 = .ok (.getfield 22, 3) := by decide +kernel
theorem dX8_readsRiders_28 : decode cX8_readsRiders 28 = .ok (.iload_n 2, 1) := by decide +kernel
theorem dX8_readsRiders_29 : decode cX8_readsRiders 29 = .ok (.iaload, 1) := by decide +kernel
theorem dX8_readsRiders_30 : decode cX8_readsRiders 30 = .ok (.invokestatic 123, 3) := by decide +kernel
theorem dX8_readsRiders_33 : decode cX8_readsRiders 33 = .ok (.istore 4, 2) := by decide +kernel
theorem dX8_readsRiders_35 : decode cX8_readsRiders 35 = .ok (.iload 4, 2) := by decide +kernel
theorem dX8_readsRiders_37 : decode cX8_readsRiders 37 = .ok (.bipush (-9), 2) := by decide +kernel
theorem dX8_readsRiders_39 : decode cX8_readsRiders 39 = .ok (.if_icmp .ne 10, 3) := by decide +kernel
theorem dX8_readsRiders_42 : decode cX8_readsRiders 42 = .ok (.aload_n 0, 1) := by decide +kernel
theorem dX8_readsRiders_43 : decode cX8_readsRiders 43 = .ok (.iconst 0, 1) := by decide +kernel
theorem dX8_readsRiders_44 : decode cX8_readsRiders 44 = .ok (.putfield 120, 3) := by decide +kernel
theorem dX8_readsRiders_47 : decode cX8_readsRiders 47 = .ok (.iload_n 2, 1) := by decide +kernel
theorem dX8_readsRiders_48 : decode cX8_readsRiders 48 = .ok (.ireturn, 1) := by decide +kernel
theorem dX8_readsRiders_49 : decode cX8_readsRiders 49 = .ok (.iload_n 3, 1) := by decide +kernel
theorem dX8_readsRiders_50 : decode cX8_readsRiders 50 = .ok (.iconst 4, 1) := by decide +kernel
theorem dX8_readsRiders_51 : decode cX8_readsRiders 51 = .ok (.if_icmp .ge 17, 3) := by decide +kernel
theorem dX8_readsRiders_54 : decode cX8_readsRiders 54 = .ok (.aload_n 0, 1) := by decide +kernel
theorem dX8_readsRiders_55 : decode cX8_readsRiders 55 = .ok (.getfield 28, 3) := by decide +kernel
theorem dX8_readsRiders_58 : decode cX8_readsRiders 58 = .ok (.iconst 4, 1) := by decide +kernel
theorem dX8_readsRiders_59 : decode cX8_readsRiders 59 = .ok (.iload_n 2, 1) := by decide +kernel
theorem dX8_readsRiders_60 : decode cX8_readsRiders 60 = .ok (.iconst 5, 1) := by decide +kernel
theorem dX8_readsRiders_61 : decode cX8_readsRiders 61 = .ok (.idiv, 1) := by decide +kernel
theorem dX8_readsRiders_62 : decode cX8_readsRiders 62 = .ok (.imul, 1) := by decide +kernel
theorem dX8_readsRiders_63 : decode cX8_readsRiders 63 = .ok (.iload_n 3, 1) := by decide +kernel
theorem dX8_readsRiders_64 : decode cX8_readsRiders 64 = .ok (.iadd, 1) := by decide +kernel
theorem dX8_readsRiders_65 : decode cX8_readsRiders 65 = .ok (.iload 4, 2) := by decide +kernel
theorem dX8_readsRiders_67 : decode cX8_readsRiders 67 = .ok (.iastore, 1) := by decide +kernel
theorem dX8_readsRiders_68 : decode cX8_readsRiders 68 = .ok (.aload_n 0, 1) := by decide +kernel
theorem dX8_readsRiders_69 : decode cX8_readsRiders 69 = .ok (.dup, 1) := by decide +kernel
theorem dX8_readsRiders_70 : decode cX8_readsRiders 70 = .ok (.getfield 120, 3) := by decide +kernel
theorem dX8_readsRiders_73 : decode cX8_readsRiders 73 = .ok (.iload_n 3, 1) := by decide +kernel
theorem dX8_readsRiders_74 : decode cX8_readsRiders 74 = .ok (.iconst 3, 1) := by decide +kernel
theorem dX8_readsRiders_75 : decode cX8_readsRiders 75 = .ok (.if_icmp .ne 7, 3) := by decide +kernel
theorem dX8_readsRiders_78 : decode cX8_readsRiders 78 = .ok (.iconst 1, 1) := by decide +kernel
theorem dX8_readsRiders_79 : decode cX8_readsRiders 79 = .ok (.goto 4, 3) := by decide +kernel
theorem dX8_readsRiders_82 : decode cX8_readsRiders 82 = .ok (.iconst 0, 1) := by decide +kernel
theorem dX8_readsRiders_83 : decode cX8_readsRiders 83 = .ok (.iadd, 1) := by decide +kernel
theorem dX8_readsRiders_84 : decode cX8_readsRiders 84 = .ok (.putfield 120, 3) := by decide +kernel
theorem dX8_readsRiders_87 : decode cX8_readsRiders 87 = .ok (.iinc 2 1, 3) := by decide +kernel
theorem dX8_readsRiders_90 : decode cX8_readsRiders 90 = .ok (.goto (-76), 3) := by decide +kernel
theorem dX8_readsRiders_93 : decode cX8_readsRiders 93 = .ok (.iload_n 1, 1) := by decide +kernel
theorem dX8_readsRiders_94 : decode cX8_readsRiders 94 = .ok (.ifCond .le 17, 3) := by decide +kernel
theorem dX8_readsRiders_97 : decode cX8_readsRiders 97 = .ok (.iload_n 1, 1) := by decide +kernel
theorem dX8_readsRiders_98 : decode cX8_readsRiders 98 = .ok (.iconst 5, 1) := by decide +kernel
theorem dX8_readsRiders_99 : decode cX8_readsRiders 99 = .ok (.irem, 1) := by decide +kernel
theorem dX8_readsRiders_100 : decode cX8_readsRiders 100 = .ok (.iconst 4, 1) := by decide +kernel
theorem dX8_readsRiders_101 : decode cX8_readsRiders 101 = .ok (.if_icmp .eq 10, 3) := by decide +kernel
theorem dX8_readsRiders_104 : decode cX8_readsRiders 104 = .ok (.aload_n 0, 1) := by decide +kernel
theorem dX8_readsRiders_105 : decode cX8_readsRiders 105 = .ok (.iconst 0, 1) := by decide +kernel
theorem dX8_readsRiders_106 : decode cX8_readsRiders 106 = .ok (.putfield 120, 3) := by decide +kernel
theorem dX8_readsRiders_109 : decode cX8_readsRiders 109 = .ok (.iload_n 1, 1) := by decide +kernel
theorem dX8_readsRiders_110 : decode cX8_readsRiders 110 = .ok (.ireturn, 1) := by decide +kernel
theorem dX8_readsRiders_111 : decode cX8_readsRiders 111 = .ok (.iconst (-1), 1) := by decide +kernel
theorem dX8_readsRiders_112 : decode cX8_readsRiders 112 = .ok (.ireturn, 1) := by decide +kernel
theorem dX8_readsBag_0 : decode cX8_readsBag 0 = .ok (.aload_n 0, 1) := by decide +kernel
theorem dX8_readsBag_1 : decode cX8_readsBag 1 = .ok (.iconst 0, 1) := by decide +kernel
theorem dX8_readsBag_2 : decode cX8_readsBag 2 = .ok (.putfield 126, 3) := by decide +kernel
theorem dX8_readsBag_5 : decode cX8_readsBag 5 = .ok (.iconst 0, 1) := by decide +kernel
theorem dX8_readsBag_6 : decode cX8_readsBag 6 = .ok (.istore_n 1, 1) := by decide +kernel
theorem dX8_readsBag_7 : decode cX8_readsBag 7 = .ok (.iload_n 1, 1) := by decide +kernel
theorem dX8_readsBag_8 : decode cX8_readsBag 8 = .ok (.aload_n 0, 1) := by decide +kernel
theorem dX8_readsBag_9 : decode cX8_readsBag 9 = .ok (.getfield 25, 3) := by decide +kernel
theorem dX8_readsBag_12 : decode cX8_readsBag 12 = .ok (.iconst 1, 1) := by decide +kernel
theorem dX8_readsBag_13 : decode cX8_readsBag 13 = .ok (.iaload, 1) := by decide +kernel
theorem dX8_readsBag_14 : decode cX8_readsBag 14 = .ok (.if_icmp .ge 78, 3) := by decide +kernel
theorem dX8_readsBag_17 : decode cX8_readsBag 17 = .ok (.aload_n 0, 1) := by decide +kernel
theorem dX8_readsBag_18 : decode cX8_readsBag 18 = .ok (.getfield 22, 3) := by decide +kernel
theorem dX8_readsBag_21 : decode cX8_readsBag 21 = .ok (.bipush 40, 2) := by decide +kernel
theorem dX8_readsBag_23 : decode cX8_readsBag 23 = .ok (.iload_n 1, 1) := by decide +kernel
theorem dX8_readsBag_24 : decode cX8_readsBag 24 = .ok (.iadd, 1) := by decide +kernel
theorem dX8_readsBag_25 : decode cX8_readsBag 25 = .ok (.iaload, 1) := by decide +kernel
theorem dX8_readsBag_26 : decode cX8_readsBag 26 = .ok (.istore_n 2, 1) := by decide +kernel
theorem dX8_readsBag_27 : decode cX8_readsBag 27 = .ok (.iload_n 2, 1) := by decide +kernel
theorem dX8_readsBag_28 : decode cX8_readsBag 28 = .ok (.i2l, 1) := by decide +kernel
theorem dX8_readsBag_29 : decode cX8_readsBag 29 = .ok (.ldc2_w 129, 3) := by decide +kernel
theorem dX8_readsBag_32 : decode cX8_readsBag 32 = .ok (.ldc2_w 131, 3) := by decide +kernel
theorem dX8_readsBag_35 : decode cX8_readsBag 35 = .ok (.invokestatic 76, 3) := by decide +kernel
theorem dX8_readsBag_38 : decode cX8_readsBag 38 = .ok (.ifCond .eq 13, 3) := by decide +kernel
theorem dX8_readsBag_41 : decode cX8_readsBag 41 = .ok (.iload_n 2, 1) := by decide +kernel
theorem dX8_readsBag_42 : decode cX8_readsBag 42 = .ok (.bipush 65, 2) := by decide +kernel
theorem dX8_readsBag_44 : decode cX8_readsBag 44 = .ok (.isub, 1) := by decide +kernel
theorem dX8_readsBag_45 : decode cX8_readsBag 45 = .ok (.bipush 8, 2) := by decide +kernel
theorem dX8_readsBag_47 : decode cX8_readsBag 47 = .ok (.iadd, 1) := by decide +kernel
theorem dX8_readsBag_48 : decode cX8_readsBag 48 = .ok (.goto 7, 3) := by decide +kernel
theorem dX8_readsBag_51 : decode cX8_readsBag 51 = .ok (.iload_n 2, 1) := by decide +kernel
theorem dX8_readsBag_52 : decode cX8_readsBag 52 = .ok (.invokestatic 113, 3) := by decide +kernel
theorem dX8_readsBag_55 : decode cX8_readsBag 55 = .ok (.istore_n 3, 1) := by decide +kernel
theorem dX8_readsBag_56 : decode cX8_readsBag 56 = .ok (.iload_n 3, 1) := by decide +kernel
theorem dX8_readsBag_57 : decode cX8_readsBag 57 = .ok (.bipush (-9), 2) := by decide +kernel
theorem dX8_readsBag_59 : decode cX8_readsBag 59 = .ok (.if_icmp .ne 10, 3) := by decide +kernel
theorem dX8_readsBag_62 : decode cX8_readsBag 62 = .ok (.aload_n 0, 1) := by decide +kernel
theorem dX8_readsBag_63 : decode cX8_readsBag 63 = .ok (.iconst 0, 1) := by decide +kernel
theorem dX8_readsBag_64 : decode cX8_readsBag 64 = .ok (.putfield 126, 3) := by decide +kernel
theorem dX8_readsBag_67 : decode cX8_readsBag 67 = .ok (.iload_n 1, 1) := by decide +kernel
theorem dX8_readsBag_68 : decode cX8_readsBag 68 = .ok (.ireturn, 1) := by decide +kernel
theorem dX8_readsBag_69 : decode cX8_readsBag 69 = .ok (.aload_n 0, 1) := by decide +kernel
theorem dX8_readsBag_70 : decode cX8_readsBag 70 = .ok (.getfield 31, 3) := by decide +kernel
theorem dX8_readsBag_73 : decode cX8_readsBag 73 = .ok (.iload_n 1, 1) := by decide +kernel
theorem dX8_readsBag_74 : decode cX8_readsBag 74 = .ok (.iload_n 3, 1) := by decide +kernel
theorem dX8_readsBag_75 : decode cX8_readsBag 75 = .ok (.iastore, 1) := by decide +kernel
theorem dX8_readsBag_76 : decode cX8_readsBag 76 = .ok (.aload_n 0, 1) := by decide +kernel
theorem dX8_readsBag_77 : decode cX8_readsBag 77 = .ok (.dup, 1) := by decide +kernel
theorem dX8_readsBag_78 : decode cX8_readsBag 78 = .ok (.getfield 126, 3) := by decide +kernel
theorem dX8_readsBag_81 : decode cX8_readsBag 81 = .ok (.iconst 1, 1) := by decide +kernel
theorem dX8_readsBag_82 : decode cX8_readsBag 82 = .ok (.iadd, 1) := by decide +kernel
theorem dX8_readsBag_83 : decode cX8_readsBag 83 = .ok (.putfield 126, 3) := by decide +kernel
theorem dX8_readsBag_86 : decode cX8_readsBag 86 = .ok (.iinc 1 1, 3) := by decide +kernel
theorem dX8_readsBag_89 : decode cX8_readsBag 89 = .ok (.goto (-82), 3) := by decide +kernel
theorem dX8_readsBag_92 : decode cX8_readsBag 92 = .ok (.iconst (-1), 1) := by decide +kernel
theorem dX8_readsBag_93 : decode cX8_readsBag 93 = .ok (.ireturn, 1) := by decide +kernel
theorem dX8_fault_0 : decode cX8_fault 0 = .ok (.iload_n 1, 1) := by decide +kernel
theorem dX8_fault_1 : decode cX8_fault 1 = .ok (.invokestatic 104, 3) := by decide +kernel
theorem dX8_fault_4 : decode cX8_fault 4 = .ok (.ifCond .ne 8, 3) := by decide +kernel
theorem dX8_fault_7 : decode cX8_fault 7 = .ok (.bipush (-2), 2) := by decide +kernel
theorem dX8_fault_9 : decode cX8_fault 9 = .ok (.goto 18, 3) := by decide +kernel
theorem dX8_fault_12 : decode cX8_fault 12 = .ok (.iload_n 1, 1) := by decide +kernel
theorem dX8_fault_13 : decode cX8_fault 13 = .ok (.ifCond .ne 10, 3) := by decide +kernel
theorem dX8_fault_16 : decode cX8_fault 16 = .ok (.aload_n 0, 1) := by decide +kernel
theorem dX8_fault_17 : decode cX8_fault 17 = .ok (.invokevirtual 133, 3) := by decide +kernel
theorem dX8_fault_20 : decode cX8_fault 20 = .ok (.goto 7, 3) := by decide +kernel
theorem dX8_fault_23 : decode cX8_fault 23 = .ok (.aload_n 0, 1) := by decide +kernel
theorem dX8_fault_24 : decode cX8_fault 24 = .ok (.invokevirtual 137, 3) := by decide +kernel
theorem dX8_fault_27 : decode cX8_fault 27 = .ok (.ireturn, 1) := by decide +kernel
theorem dX8_isRider_0 : decode cX8_isRider 0 = .ok (.iload_n 1, 1) := by decide +kernel
theorem dX8_isRider_1 : decode cX8_isRider 1 = .ok (.i2l, 1) := by decide +kernel
theorem dX8_isRider_2 : decode cX8_isRider 2 = .ok (.lconst 0, 1) := by decide +kernel
theorem dX8_isRider_3 : decode cX8_isRider 3 = .ok (.aload_n 0, 1) := by decide +kernel
theorem dX8_isRider_4 : decode cX8_isRider 4 = .ok (.getfield 120, 3) := by decide +kernel
theorem dX8_isRider_7 : decode cX8_isRider 7 = .ok (.iconst 1, 1) := by decide +kernel
theorem dX8_isRider_8 : decode cX8_isRider 8 = .ok (.isub, 1) := by decide +kernel
theorem dX8_isRider_9 : decode cX8_isRider 9 = .ok (.i2l, 1) := by decide +kernel
theorem dX8_isRider_10 : decode cX8_isRider 10 = .ok (.invokestatic 76, 3) := by decide +kernel
theorem dX8_isRider_13 : decode cX8_isRider 13 = .ok (.ireturn, 1) := by decide +kernel
theorem dX8_isDay_0 : decode cX8_isDay 0 = .ok (.iload_n 0, 1) := by decide +kernel
theorem dX8_isDay_1 : decode cX8_isDay 1 = .ok (.i2l, 1) := by decide +kernel
theorem dX8_isDay_2 : decode cX8_isDay 2 = .ok (.lconst 0, 1) := by decide +kernel
theorem dX8_isDay_3 : decode cX8_isDay 3 = .ok (.ldc2_w 140, 3) := by decide +kernel
theorem dX8_isDay_6 : decode cX8_isDay 6 = .ok (.invokestatic 76, 3) := by decide +kernel
theorem dX8_isDay_9 : decode cX8_isDay 9 = .ok (.ireturn, 1) := by decide +kernel
theorem dX8_rider_0 : decode cX8_rider 0 = .ok (.aload_n 0, 1) := by decide +kernel
theorem dX8_rider_1 : decode cX8_rider 1 = .ok (.invokevirtual 133, 3) := by decide +kernel
theorem dX8_rider_4 : decode cX8_rider 4 = .ok (.pop, 1) := by decide +kernel
theorem dX8_rider_5 : decode cX8_rider 5 = .ok (.aload_n 0, 1) := by decide +kernel
theorem dX8_rider_6 : decode cX8_rider 6 = .ok (.iload_n 1, 1) := by decide +kernel
theorem dX8_rider_7 : decode cX8_rider 7 = .ok (.invokevirtual 142, 3) := by decide +kernel
theorem dX8_rider_10 : decode cX8_rider 10 = .ok (.ifCond .eq 28, 3) := by decide +kernel
theorem dX8_rider_13 : decode cX8_rider 13 = .ok (.iload_n 2, 1) := by decide +kernel
theorem dX8_rider_14 : decode cX8_rider 14 = .ok (.i2l, 1) := by decide +kernel
theorem dX8_rider_15 : decode cX8_rider 15 = .ok (.lconst 0, 1) := by decide +kernel
theorem dX8_rider_16 : decode cX8_rider 16 = .ok (.ldc2_w 83, 3) := by decide +kernel
theorem dX8_rider_19 : decode cX8_rider 19 = .ok (.invokestatic 76, 3) := by decide +kernel
theorem dX8_rider_22 : decode cX8_rider 22 = .ok (.ifCond .eq 16, 3) := by decide +kernel
theorem dX8_rider_25 : decode cX8_rider 25 = .ok (.aload_n 0, 1) := by decide +kernel
theorem dX8_rider_26 : decode cX8_rider 26 = .ok (.getfield 28, 3) := by decide +kernel
theorem dX8_rider_29 : decode cX8_rider 29 = .ok (.iconst 4, 1) := by decide +kernel
theorem dX8_rider_30 : decode cX8_rider 30 = .ok (.iload_n 1, 1) := by decide +kernel
theorem dX8_rider_31 : decode cX8_rider 31 = .ok (.imul, 1) := by decide +kernel
theorem dX8_rider_32 : decode cX8_rider 32 = .ok (.iload_n 2, 1) := by decide +kernel
theorem dX8_rider_33 : decode cX8_rider 33 = .ok (.iadd, 1) := by decide +kernel
theorem dX8_rider_34 : decode cX8_rider 34 = .ok (.iaload, 1) := by decide +kernel
theorem dX8_rider_35 : decode cX8_rider 35 = .ok (.goto 5, 3) := by decide +kernel
theorem dX8_rider_38 : decode cX8_rider 38 = .ok (.bipush (-2), 2) := by decide +kernel
theorem dX8_rider_40 : decode cX8_rider 40 = .ok (.ireturn, 1) := by decide +kernel
theorem dX8_worth_0 : decode cX8_worth 0 = .ok (.iload_n 1, 1) := by decide +kernel
theorem dX8_worth_1 : decode cX8_worth 1 = .ok (.i2l, 1) := by decide +kernel
theorem dX8_worth_2 : decode cX8_worth 2 = .ok (.lconst 0, 1) := by decide +kernel
theorem dX8_worth_3 : decode cX8_worth 3 = .ok (.ldc2_w 145, 3) := by decide +kernel
theorem dX8_worth_6 : decode cX8_worth 6 = .ok (.invokestatic 76, 3) := by decide +kernel
theorem dX8_worth_9 : decode cX8_worth 9 = .ok (.ifCond .eq 15, 3) := by decide +kernel
theorem dX8_worth_12 : decode cX8_worth 12 = .ok (.iload_n 2, 1) := by decide +kernel
theorem dX8_worth_13 : decode cX8_worth 13 = .ok (.i2l, 1) := by decide +kernel
theorem dX8_worth_14 : decode cX8_worth 14 = .ok (.lconst 0, 1) := by decide +kernel
theorem dX8_worth_15 : decode cX8_worth 15 = .ok (.ldc2_w 140, 3) := by decide +kernel
theorem dX8_worth_18 : decode cX8_worth 18 = .ok (.invokestatic 76, 3) := by decide +kernel
theorem dX8_worth_21 : decode cX8_worth 21 = .ok (.ifCond .ne 6, 3) := by decide +kernel
theorem dX8_worth_24 : decode cX8_worth 24 = .ok (.bipush (-2), 2) := by decide +kernel
theorem dX8_worth_26 : decode cX8_worth 26 = .ok (.ireturn, 1) := by decide +kernel
theorem dX8_worth_27 : decode cX8_worth 27 = .ok (.aload_n 0, 1) := by decide +kernel
theorem dX8_worth_28 : decode cX8_worth 28 = .ok (.getfield 34, 3) := by decide +kernel
theorem dX8_worth_31 : decode cX8_worth 31 = .ok (.iload_n 1, 1) := by decide +kernel
theorem dX8_worth_32 : decode cX8_worth 32 = .ok (.iaload, 1) := by decide +kernel
theorem dX8_worth_33 : decode cX8_worth 33 = .ok (.istore_n 3, 1) := by decide +kernel
theorem dX8_worth_34 : decode cX8_worth 34 = .ok (.aload_n 0, 1) := by decide +kernel
theorem dX8_worth_35 : decode cX8_worth 35 = .ok (.getfield 34, 3) := by decide +kernel
theorem dX8_worth_38 : decode cX8_worth 38 = .ok (.iload_n 1, 1) := by decide +kernel
theorem dX8_worth_39 : decode cX8_worth 39 = .ok (.iload_n 2, 1) := by decide +kernel
theorem dX8_worth_40 : decode cX8_worth 40 = .ok (.iastore, 1) := by decide +kernel
theorem dX8_worth_41 : decode cX8_worth 41 = .ok (.iload_n 3, 1) := by decide +kernel
theorem dX8_worth_42 : decode cX8_worth 42 = .ok (.ireturn, 1) := by decide +kernel
theorem dX8_set_0 : decode cX8_set 0 = .ok (.iload_n 1, 1) := by decide +kernel
theorem dX8_set_1 : decode cX8_set 1 = .ok (.ifCond .ne 8, 3) := by decide +kernel
theorem dX8_set_4 : decode cX8_set 4 = .ok (.bipush 9, 2) := by decide +kernel
theorem dX8_set_6 : decode cX8_set 6 = .ok (.goto 17, 3) := by decide +kernel
theorem dX8_set_9 : decode cX8_set 9 = .ok (.iload_n 1, 1) := by decide +kernel
theorem dX8_set_10 : decode cX8_set 10 = .ok (.iconst 1, 1) := by decide +kernel
theorem dX8_set_11 : decode cX8_set 11 = .ok (.if_icmp .ne 9, 3) := by decide +kernel
theorem dX8_set_14 : decode cX8_set 14 = .ok (.sipush 1023, 3) := by decide +kernel
theorem dX8_set_17 : decode cX8_set 17 = .ok (.goto 6, 3) := by decide +kernel
theorem dX8_set_20 : decode cX8_set 20 = .ok (.sipush 255, 3) := by decide +kernel
theorem dX8_set_23 : decode cX8_set 23 = .ok (.istore_n 3, 1) := by decide +kernel
theorem dX8_set_24 : decode cX8_set 24 = .ok (.iload_n 1, 1) := by decide +kernel
theorem dX8_set_25 : decode cX8_set 25 = .ok (.i2l, 1) := by decide +kernel
theorem dX8_set_26 : decode cX8_set 26 = .ok (.lconst 0, 1) := by decide +kernel
theorem dX8_set_27 : decode cX8_set 27 = .ok (.ldc2_w 89, 3) := by decide +kernel
theorem dX8_set_30 : decode cX8_set 30 = .ok (.invokestatic 76, 3) := by decide +kernel
theorem dX8_set_33 : decode cX8_set 33 = .ok (.ifCond .eq 14, 3) := by decide +kernel
theorem dX8_set_36 : decode cX8_set 36 = .ok (.iload_n 2, 1) := by decide +kernel
theorem dX8_set_37 : decode cX8_set 37 = .ok (.i2l, 1) := by decide +kernel
theorem dX8_set_38 : decode cX8_set 38 = .ok (.lconst 0, 1) := by decide +kernel
theorem dX8_set_39 : decode cX8_set 39 = .ok (.iload_n 3, 1) := by decide +kernel
theorem dX8_set_40 : decode cX8_set 40 = .ok (.i2l, 1) := by decide +kernel
theorem dX8_set_41 : decode cX8_set 41 = .ok (.invokestatic 76, 3) := by decide +kernel
theorem dX8_set_44 : decode cX8_set 44 = .ok (.ifCond .ne 6, 3) := by decide +kernel
theorem dX8_set_47 : decode cX8_set 47 = .ok (.bipush (-2), 2) := by decide +kernel
theorem dX8_set_49 : decode cX8_set 49 = .ok (.ireturn, 1) := by decide +kernel
theorem dX8_set_50 : decode cX8_set 50 = .ok (.aload_n 0, 1) := by decide +kernel
theorem dX8_set_51 : decode cX8_set 51 = .ok (.getfield 37, 3) := by decide +kernel
theorem dX8_set_54 : decode cX8_set 54 = .ok (.iload_n 1, 1) := by decide +kernel
theorem dX8_set_55 : decode cX8_set 55 = .ok (.iaload, 1) := by decide +kernel
theorem dX8_set_56 : decode cX8_set 56 = .ok (.istore 4, 2) := by decide +kernel
theorem dX8_set_58 : decode cX8_set 58 = .ok (.aload_n 0, 1) := by decide +kernel
theorem dX8_set_59 : decode cX8_set 59 = .ok (.getfield 37, 3) := by decide +kernel
theorem dX8_set_62 : decode cX8_set 62 = .ok (.iload_n 1, 1) := by decide +kernel
theorem dX8_set_63 : decode cX8_set 63 = .ok (.iload_n 2, 1) := by decide +kernel
theorem dX8_set_64 : decode cX8_set 64 = .ok (.iastore, 1) := by decide +kernel
theorem dX8_set_65 : decode cX8_set 65 = .ok (.iload 4, 2) := by decide +kernel
theorem dX8_set_67 : decode cX8_set 67 = .ok (.ireturn, 1) := by decide +kernel
theorem dX8_puts_0 : decode cX8_puts 0 = .ok (.aload_n 0, 1) := by decide +kernel
theorem dX8_puts_1 : decode cX8_puts 1 = .ok (.getfield 46, 3) := by decide +kernel
theorem dX8_puts_4 : decode cX8_puts 4 = .ok (.aload_n 0, 1) := by decide +kernel
theorem dX8_puts_5 : decode cX8_puts 5 = .ok (.getfield 147, 3) := by decide +kernel
theorem dX8_puts_8 : decode cX8_puts 8 = .ok (.iload_n 1, 1) := by decide +kernel
theorem dX8_puts_9 : decode cX8_puts 9 = .ok (.iastore, 1) := by decide +kernel
theorem dX8_puts_10 : decode cX8_puts 10 = .ok (.aload_n 0, 1) := by decide +kernel
theorem dX8_puts_11 : decode cX8_puts 11 = .ok (.dup, 1) := by decide +kernel
theorem dX8_puts_12 : decode cX8_puts 12 = .ok (.getfield 147, 3) := by decide +kernel
theorem dX8_puts_15 : decode cX8_puts 15 = .ok (.iconst 1, 1) := by decide +kernel
theorem dX8_puts_16 : decode cX8_puts 16 = .ok (.iadd, 1) := by decide +kernel
theorem dX8_puts_17 : decode cX8_puts 17 = .ok (.putfield 147, 3) := by decide +kernel
theorem dX8_puts_20 : decode cX8_puts 20 = .ok (.return_, 1) := by decide +kernel
theorem dX8_find_0 : decode cX8_find 0 = .ok (.iconst 0, 1) := by decide +kernel
theorem dX8_find_1 : decode cX8_find 1 = .ok (.istore_n 2, 1) := by decide +kernel
theorem dX8_find_2 : decode cX8_find 2 = .ok (.iload_n 2, 1) := by decide +kernel
theorem dX8_find_3 : decode cX8_find 3 = .ok (.aload_n 0, 1) := by decide +kernel
theorem dX8_find_4 : decode cX8_find 4 = .ok (.getfield 147, 3) := by decide +kernel
theorem dX8_find_7 : decode cX8_find 7 = .ok (.if_icmp .ge 21, 3) := by decide +kernel
theorem dX8_find_10 : decode cX8_find 10 = .ok (.aload_n 0, 1) := by decide +kernel
theorem dX8_find_11 : decode cX8_find 11 = .ok (.getfield 46, 3) := by decide +kernel
theorem dX8_find_14 : decode cX8_find 14 = .ok (.iload_n 2, 1) := by decide +kernel
theorem dX8_find_15 : decode cX8_find 15 = .ok (.iaload, 1) := by decide +kernel
theorem dX8_find_16 : decode cX8_find 16 = .ok (.iload_n 1, 1) := by decide +kernel
theorem dX8_find_17 : decode cX8_find 17 = .ok (.if_icmp .ne 5, 3) := by decide +kernel
theorem dX8_find_20 : decode cX8_find 20 = .ok (.iload_n 2, 1) := by decide +kernel
theorem dX8_find_21 : decode cX8_find 21 = .ok (.ireturn, 1) := by decide +kernel
theorem dX8_find_22 : decode cX8_find 22 = .ok (.iinc 2 1, 3) := by decide +kernel
theorem dX8_find_25 : decode cX8_find 25 = .ok (.goto (-23), 3) := by decide +kernel
theorem dX8_find_28 : decode cX8_find 28 = .ok (.iconst (-1), 1) := by decide +kernel
theorem dX8_find_29 : decode cX8_find 29 = .ok (.ireturn, 1) := by decide +kernel
theorem dX8_takes_0 : decode cX8_takes 0 = .ok (.aload_n 0, 1) := by decide +kernel
theorem dX8_takes_1 : decode cX8_takes 1 = .ok (.dup, 1) := by decide +kernel
theorem dX8_takes_2 : decode cX8_takes 2 = .ok (.getfield 147, 3) := by decide +kernel
theorem dX8_takes_5 : decode cX8_takes 5 = .ok (.iconst 1, 1) := by decide +kernel
theorem dX8_takes_6 : decode cX8_takes 6 = .ok (.isub, 1) := by decide +kernel
theorem dX8_takes_7 : decode cX8_takes 7 = .ok (.putfield 147, 3) := by decide +kernel
theorem dX8_takes_10 : decode cX8_takes 10 = .ok (.iload_n 1, 1) := by decide +kernel
theorem dX8_takes_11 : decode cX8_takes 11 = .ok (.istore_n 2, 1) := by decide +kernel
theorem dX8_takes_12 : decode cX8_takes 12 = .ok (.iload_n 2, 1) := by decide +kernel
theorem dX8_takes_13 : decode cX8_takes 13 = .ok (.aload_n 0, 1) := by decide +kernel
theorem dX8_takes_14 : decode cX8_takes 14 = .ok (.getfield 147, 3) := by decide +kernel
theorem dX8_takes_17 : decode cX8_takes 17 = .ok (.if_icmp .ge 23, 3) := by decide +kernel
theorem dX8_takes_20 : decode cX8_takes 20 = .ok (.aload_n 0, 1) := by decide +kernel
theorem dX8_takes_21 : decode cX8_takes 21 = .ok (.getfield 46, 3) := by decide +kernel
theorem dX8_takes_24 : decode cX8_takes 24 = .ok (.iload_n 2, 1) := by decide +kernel
theorem dX8_takes_25 : decode cX8_takes 25 = .ok (.aload_n 0, 1) := by decide +kernel
theorem dX8_takes_26 : decode cX8_takes 26 = .ok (.getfield 46, 3) := by decide +kernel
theorem dX8_takes_29 : decode cX8_takes 29 = .ok (.iload_n 2, 1) := by decide +kernel
theorem dX8_takes_30 : decode cX8_takes 30 = .ok (.iconst 1, 1) := by decide +kernel
theorem dX8_takes_31 : decode cX8_takes 31 = .ok (.iadd, 1) := by decide +kernel
theorem dX8_takes_32 : decode cX8_takes 32 = .ok (.iaload, 1) := by decide +kernel
theorem dX8_takes_33 : decode cX8_takes 33 = .ok (.iastore, 1) := by decide +kernel
theorem dX8_takes_34 : decode cX8_takes 34 = .ok (.iinc 2 1, 3) := by decide +kernel
theorem dX8_takes_37 : decode cX8_takes 37 = .ok (.goto (-25), 3) := by decide +kernel
theorem dX8_takes_40 : decode cX8_takes 40 = .ok (.return_, 1) := by decide +kernel
theorem dX8_may_0 : decode cX8_may 0 = .ok (.aload_n 0, 1) := by decide +kernel
theorem dX8_may_1 : decode cX8_may 1 = .ok (.getfield 150, 3) := by decide +kernel
theorem dX8_may_4 : decode cX8_may 4 = .ok (.iload_n 1, 1) := by decide +kernel
theorem dX8_may_5 : decode cX8_may 5 = .ok (.invokestatic 153, 3) := by decide +kernel
theorem dX8_may_8 : decode cX8_may 8 = .ok (.ifCond .eq 32, 3) := by decide +kernel
theorem dX8_may_11 : decode cX8_may 11 = .ok (.aload_n 0, 1) := by decide +kernel
theorem dX8_may_12 : decode cX8_may 12 = .ok (.getfield 40, 3) := by decide +kernel
theorem dX8_may_15 : decode cX8_may 15 = .ok (.iload_n 1, 1) := by decide +kernel
theorem dX8_may_16 : decode cX8_may 16 = .ok (.iaload, 1) := by decide +kernel
theorem dX8_may_17 : decode cX8_may 17 = .ok (.iconst 1, 1) := by decide +kernel
theorem dX8_may_18 : decode cX8_may 18 = .ok (.if_icmp .lt 22, 3) := by decide +kernel
theorem dX8_may_21 : decode cX8_may 21 = .ok (.aload_n 0, 1) := by decide +kernel
theorem dX8_may_22 : decode cX8_may 22 = .ok (.getfield 40, 3) := by decide +kernel
theorem dX8_may_25 : decode cX8_may 25 = .ok (.iload_n 1, 1) := by decide +kernel
theorem dX8_may_26 : decode cX8_may 26 = .ok (.iaload, 1) := by decide +kernel
theorem dX8_may_27 : decode cX8_may 27 = .ok (.aload_n 0, 1) := by decide +kernel
theorem dX8_may_28 : decode cX8_may 28 = .ok (.getfield 28, 3) := by decide +kernel
theorem dX8_may_31 : decode cX8_may 31 = .ok (.iconst 4, 1) := by decide +kernel
theorem dX8_may_32 : decode cX8_may 32 = .ok (.iload_n 1, 1) := by decide +kernel
theorem dX8_may_33 : decode cX8_may 33 = .ok (.imul, 1) := by decide +kernel
theorem dX8_may_34 : decode cX8_may 34 = .ok (.iconst 3, 1) := by decide +kernel
theorem dX8_may_35 : decode cX8_may 35 = .ok (.iadd, 1) := by decide +kernel
theorem dX8_may_36 : decode cX8_may 36 = .ok (.iaload, 1) := by decide +kernel
theorem dX8_may_37 : decode cX8_may 37 = .ok (.if_icmp .ne 5, 3) := by decide +kernel
theorem dX8_may_40 : decode cX8_may 40 = .ok (.iconst 0, 1) := by decide +kernel
theorem dX8_may_41 : decode cX8_may 41 = .ok (.ireturn, 1) := by decide +kernel
theorem dX8_may_42 : decode cX8_may 42 = .ok (.aload_n 0, 1) := by decide +kernel
theorem dX8_may_43 : decode cX8_may 43 = .ok (.getfield 34, 3) := by decide +kernel
theorem dX8_may_46 : decode cX8_may 46 = .ok (.aload_n 0, 1) := by decide +kernel
theorem dX8_may_47 : decode cX8_may 47 = .ok (.getfield 40, 3) := by decide +kernel
theorem dX8_may_50 : decode cX8_may 50 = .ok (.iload_n 1, 1) := by decide +kernel
theorem dX8_may_51 : decode cX8_may 51 = .ok (.iaload, 1) := by decide +kernel
theorem dX8_may_52 : decode cX8_may 52 = .ok (.iaload, 1) := by decide +kernel
theorem dX8_may_53 : decode cX8_may 53 = .ok (.aload_n 0, 1) := by decide +kernel
theorem dX8_may_54 : decode cX8_may 54 = .ok (.getfield 34, 3) := by decide +kernel
theorem dX8_may_57 : decode cX8_may 57 = .ok (.aload_n 0, 1) := by decide +kernel
theorem dX8_may_58 : decode cX8_may 58 = .ok (.getfield 28, 3) := by decide +kernel
theorem dX8_may_61 : decode cX8_may 61 = .ok (.iconst 4, 1) := by decide +kernel
theorem dX8_may_62 : decode cX8_may 62 = .ok (.iload_n 1, 1) := by decide +kernel
theorem dX8_may_63 : decode cX8_may 63 = .ok (.imul, 1) := by decide +kernel
theorem dX8_may_64 : decode cX8_may 64 = .ok (.iconst 3, 1) := by decide +kernel
theorem dX8_may_65 : decode cX8_may 65 = .ok (.iadd, 1) := by decide +kernel
theorem dX8_may_66 : decode cX8_may 66 = .ok (.iaload, 1) := by decide +kernel
theorem dX8_may_67 : decode cX8_may 67 = .ok (.iaload, 1) := by decide +kernel
theorem dX8_may_68 : decode cX8_may 68 = .ok (.isub, 1) := by decide +kernel
theorem dX8_may_69 : decode cX8_may 69 = .ok (.istore_n 2, 1) := by decide +kernel
theorem dX8_may_70 : decode cX8_may 70 = .ok (.iload_n 2, 1) := by decide +kernel
theorem dX8_may_71 : decode cX8_may 71 = .ok (.ifCond .ge 8, 3) := by decide +kernel
theorem dX8_may_74 : decode cX8_may 74 = .ok (.iload_n 2, 1) := by decide +kernel
theorem dX8_may_75 : decode cX8_may 75 = .ok (.ineg, 1) := by decide +kernel
theorem dX8_may_76 : decode cX8_may 76 = .ok (.goto 4, 3) := by decide +kernel
theorem dX8_may_79 : decode cX8_may 79 = .ok (.iload_n 2, 1) := by decide +kernel
theorem dX8_may_80 : decode cX8_may 80 = .ok (.aload_n 0, 1) := by decide +kernel
theorem dX8_may_81 : decode cX8_may 81 = .ok (.getfield 37, 3) := by decide +kernel
theorem dX8_may_84 : decode cX8_may 84 = .ok (.iconst 0, 1) := by decide +kernel
theorem dX8_may_85 : decode cX8_may 85 = .ok (.iaload, 1) := by decide +kernel
theorem dX8_may_86 : decode cX8_may 86 = .ok (.if_icmp .gt 7, 3) := by decide +kernel
theorem dX8_may_89 : decode cX8_may 89 = .ok (.iconst 1, 1) := by decide +kernel
theorem dX8_may_90 : decode cX8_may 90 = .ok (.goto 4, 3) := by decide +kernel
theorem dX8_may_93 : decode cX8_may 93 = .ok (.iconst 0, 1) := by decide +kernel
theorem dX8_may_94 : decode cX8_may 94 = .ok (.ireturn, 1) := by decide +kernel
theorem dX8_other_0 : decode cX8_other 0 = .ok (.iconst 0, 1) := by decide +kernel
theorem dX8_other_1 : decode cX8_other 1 = .ok (.istore_n 2, 1) := by decide +kernel
theorem dX8_other_2 : decode cX8_other 2 = .ok (.iload_n 2, 1) := by decide +kernel
theorem dX8_other_3 : decode cX8_other 3 = .ok (.aload_n 0, 1) := by decide +kernel
theorem dX8_other_4 : decode cX8_other 4 = .ok (.getfield 120, 3) := by decide +kernel
theorem dX8_other_7 : decode cX8_other 7 = .ok (.if_icmp .ge 47, 3) := by decide +kernel
theorem dX8_other_10 : decode cX8_other 10 = .ok (.iload_n 2, 1) := by decide +kernel
theorem dX8_other_11 : decode cX8_other 11 = .ok (.iload_n 1, 1) := by decide +kernel
theorem dX8_other_12 : decode cX8_other 12 = .ok (.if_icmp .eq 36, 3) := by decide +kernel
theorem dX8_other_15 : decode cX8_other 15 = .ok (.aload_n 0, 1) := by decide +kernel
theorem dX8_other_16 : decode cX8_other 16 = .ok (.iload_n 2, 1) := by decide +kernel
theorem dX8_other_17 : decode cX8_other 17 = .ok (.invokevirtual 157, 3) := by decide +kernel
theorem dX8_other_20 : decode cX8_other 20 = .ok (.ifCond .eq 28, 3) := by decide +kernel
theorem dX8_other_23 : decode cX8_other 23 = .ok (.aload_n 0, 1) := by decide +kernel
theorem dX8_other_24 : decode cX8_other 24 = .ok (.getfield 28, 3) := by decide +kernel
theorem dX8_other_27 : decode cX8_other 27 = .ok (.iconst 4, 1) := by decide +kernel
theorem dX8_other_28 : decode cX8_other 28 = .ok (.iload_n 2, 1) := by decide +kernel
theorem dX8_other_29 : decode cX8_other 29 = .ok (.imul, 1) := by decide +kernel
theorem dX8_other_30 : decode cX8_other 30 = .ok (.iconst 3, 1) := by decide +kernel
theorem dX8_other_31 : decode cX8_other 31 = .ok (.iadd, 1) := by decide +kernel
theorem dX8_other_32 : decode cX8_other 32 = .ok (.iaload, 1) := by decide +kernel
theorem dX8_other_33 : decode cX8_other 33 = .ok (.aload_n 0, 1) := by decide +kernel
theorem dX8_other_34 : decode cX8_other 34 = .ok (.getfield 28, 3) := by decide +kernel
theorem dX8_other_37 : decode cX8_other 37 = .ok (.iconst 4, 1) := by decide +kernel
theorem dX8_other_38 : decode cX8_other 38 = .ok (.iload_n 1, 1) := by decide +kernel
theorem dX8_other_39 : decode cX8_other 39 = .ok (.imul, 1) := by decide +kernel
theorem dX8_other_40 : decode cX8_other 40 = .ok (.iconst 3, 1) := by decide +kernel
theorem dX8_other_41 : decode cX8_other 41 = .ok (.iadd, 1) := by decide +kernel
theorem dX8_other_42 : decode cX8_other 42 = .ok (.iaload, 1) := by decide +kernel
theorem dX8_other_43 : decode cX8_other 43 = .ok (.if_icmp .ne 5, 3) := by decide +kernel
theorem dX8_other_46 : decode cX8_other 46 = .ok (.iload_n 2, 1) := by decide +kernel
theorem dX8_other_47 : decode cX8_other 47 = .ok (.ireturn, 1) := by decide +kernel
theorem dX8_other_48 : decode cX8_other 48 = .ok (.iinc 2 1, 3) := by decide +kernel
theorem dX8_other_51 : decode cX8_other 51 = .ok (.goto (-49), 3) := by decide +kernel
theorem dX8_other_54 : decode cX8_other 54 = .ok (.iconst (-1), 1) := by decide +kernel
theorem dX8_other_55 : decode cX8_other 55 = .ok (.ireturn, 1) := by decide +kernel
theorem dX8_gives_0 : decode cX8_gives 0 = .ok (.aload_n 0, 1) := by decide +kernel
theorem dX8_gives_1 : decode cX8_gives 1 = .ok (.aload_n 0, 1) := by decide +kernel
theorem dX8_gives_2 : decode cX8_gives 2 = .ok (.getfield 40, 3) := by decide +kernel
theorem dX8_gives_5 : decode cX8_gives 5 = .ok (.iload_n 1, 1) := by decide +kernel
theorem dX8_gives_6 : decode cX8_gives 6 = .ok (.iaload, 1) := by decide +kernel
theorem dX8_gives_7 : decode cX8_gives 7 = .ok (.invokevirtual 160, 3) := by decide +kernel
theorem dX8_gives_10 : decode cX8_gives 10 = .ok (.aload_n 0, 1) := by decide +kernel
theorem dX8_gives_11 : decode cX8_gives 11 = .ok (.getfield 40, 3) := by decide +kernel
theorem dX8_gives_14 : decode cX8_gives 14 = .ok (.iload_n 1, 1) := by decide +kernel
theorem dX8_gives_15 : decode cX8_gives 15 = .ok (.aload_n 0, 1) := by decide +kernel
theorem dX8_gives_16 : decode cX8_gives 16 = .ok (.getfield 28, 3) := by decide +kernel
theorem dX8_gives_19 : decode cX8_gives 19 = .ok (.iconst 4, 1) := by decide +kernel
theorem dX8_gives_20 : decode cX8_gives 20 = .ok (.iload_n 1, 1) := by decide +kernel
theorem dX8_gives_21 : decode cX8_gives 21 = .ok (.imul, 1) := by decide +kernel
theorem dX8_gives_22 : decode cX8_gives 22 = .ok (.iconst 3, 1) := by decide +kernel
theorem dX8_gives_23 : decode cX8_gives 23 = .ok (.iadd, 1) := by decide +kernel
theorem dX8_gives_24 : decode cX8_gives 24 = .ok (.iaload, 1) := by decide +kernel
theorem dX8_gives_25 : decode cX8_gives 25 = .ok (.iastore, 1) := by decide +kernel
theorem dX8_gives_26 : decode cX8_gives 26 = .ok (.aload_n 0, 1) := by decide +kernel
theorem dX8_gives_27 : decode cX8_gives 27 = .ok (.getfield 43, 3) := by decide +kernel
theorem dX8_gives_30 : decode cX8_gives 30 = .ok (.iload_n 1, 1) := by decide +kernel
theorem dX8_gives_31 : decode cX8_gives 31 = .ok (.iload_n 2, 1) := by decide +kernel
theorem dX8_gives_32 : decode cX8_gives 32 = .ok (.iastore, 1) := by decide +kernel
theorem dX8_gives_33 : decode cX8_gives 33 = .ok (.return_, 1) := by decide +kernel
theorem dX8_changesOne_0 : decode cX8_changesOne 0 = .ok (.aload_n 0, 1) := by decide +kernel
theorem dX8_changesOne_1 : decode cX8_changesOne 1 = .ok (.getfield 28, 3) := by decide +kernel
theorem dX8_changesOne_4 : decode cX8_changesOne 4 = .ok (.iconst 4, 1) := by decide +kernel
theorem dX8_changesOne_5 : decode cX8_changesOne 5 = .ok (.iload_n 1, 1) := by decide +kernel
theorem dX8_changesOne_6 : decode cX8_changesOne 6 = .ok (.imul, 1) := by decide +kernel
theorem dX8_changesOne_7 : decode cX8_changesOne 7 = .ok (.iconst 3, 1) := by decide +kernel
theorem dX8_changesOne_8 : decode cX8_changesOne 8 = .ok (.iadd, 1) := by decide +kernel
theorem dX8_changesOne_9 : decode cX8_changesOne 9 = .ok (.iaload, 1) := by decide +kernel
theorem dX8_changesOne_10 : decode cX8_changesOne 10 = .ok (.istore_n 2, 1) := by decide +kernel
theorem dX8_changesOne_11 : decode cX8_changesOne 11 = .ok (.aload_n 0, 1) := by decide +kernel
theorem dX8_changesOne_12 : decode cX8_changesOne 12 = .ok (.iload_n 2, 1) := by decide +kernel
theorem dX8_changesOne_13 : decode cX8_changesOne 13 = .ok (.invokevirtual 164, 3) := by decide +kernel
theorem dX8_changesOne_16 : decode cX8_changesOne 16 = .ok (.istore_n 3, 1) := by decide +kernel
theorem dX8_changesOne_17 : decode cX8_changesOne 17 = .ok (.iload_n 3, 1) := by decide +kernel
theorem dX8_changesOne_18 : decode cX8_changesOne 18 = .ok (.iconst (-1), 1) := by decide +kernel
theorem dX8_changesOne_19 : decode cX8_changesOne 19 = .ok (.if_icmp .eq 16, 3) := by decide +kernel
theorem dX8_changesOne_22 : decode cX8_changesOne 22 = .ok (.aload_n 0, 1) := by decide +kernel
theorem dX8_changesOne_23 : decode cX8_changesOne 23 = .ok (.iload_n 3, 1) := by decide +kernel
theorem dX8_changesOne_24 : decode cX8_changesOne 24 = .ok (.invokevirtual 167, 3) := by decide +kernel
theorem dX8_changesOne_27 : decode cX8_changesOne 27 = .ok (.aload_n 0, 1) := by decide +kernel
theorem dX8_changesOne_28 : decode cX8_changesOne 28 = .ok (.iload_n 1, 1) := by decide +kernel
theorem dX8_changesOne_29 : decode cX8_changesOne 29 = .ok (.iconst 0, 1) := by decide +kernel
theorem dX8_changesOne_30 : decode cX8_changesOne 30 = .ok (.invokevirtual 170, 3) := by decide +kernel
theorem dX8_changesOne_33 : decode cX8_changesOne 33 = .ok (.iconst 1, 1) := by decide +kernel
theorem dX8_changesOne_34 : decode cX8_changesOne 34 = .ok (.ireturn, 1) := by decide +kernel
theorem dX8_changesOne_35 : decode cX8_changesOne 35 = .ok (.aload_n 0, 1) := by decide +kernel
theorem dX8_changesOne_36 : decode cX8_changesOne 36 = .ok (.iload_n 2, 1) := by decide +kernel
theorem dX8_changesOne_37 : decode cX8_changesOne 37 = .ok (.bipush 8, 2) := by decide +kernel
theorem dX8_changesOne_39 : decode cX8_changesOne 39 = .ok (.iadd, 1) := by decide +kernel
theorem dX8_changesOne_40 : decode cX8_changesOne 40 = .ok (.invokevirtual 164, 3) := by decide +kernel
theorem dX8_changesOne_43 : decode cX8_changesOne 43 = .ok (.istore 4, 2) := by decide +kernel
theorem dX8_changesOne_45 : decode cX8_changesOne 45 = .ok (.iload 4, 2) := by decide +kernel
theorem dX8_changesOne_47 : decode cX8_changesOne 47 = .ok (.iconst (-1), 1) := by decide +kernel
theorem dX8_changesOne_48 : decode cX8_changesOne 48 = .ok (.if_icmp .ne 7, 3) := by decide +kernel
theorem dX8_changesOne_51 : decode cX8_changesOne 51 = .ok (.iconst (-1), 1) := by decide +kernel
theorem dX8_changesOne_52 : decode cX8_changesOne 52 = .ok (.goto 8, 3) := by decide +kernel
theorem dX8_changesOne_55 : decode cX8_changesOne 55 = .ok (.aload_n 0, 1) := by decide +kernel
theorem dX8_changesOne_56 : decode cX8_changesOne 56 = .ok (.iload_n 1, 1) := by decide +kernel
theorem dX8_changesOne_57 : decode cX8_changesOne 57 = .ok (.invokevirtual 174, 3) := by decide +kernel
theorem dX8_changesOne_60 : decode cX8_changesOne 60 = .ok (.istore 5, 2) := by decide +kernel
theorem dX8_changesOne_62 : decode cX8_changesOne 62 = .ok (.iload 5, 2) := by decide +kernel
theorem dX8_changesOne_64 : decode cX8_changesOne 64 = .ok (.iconst (-1), 1) := by decide +kernel
theorem dX8_changesOne_65 : decode cX8_changesOne 65 = .ok (.if_icmp .ne 5, 3) := by decide +kernel
theorem dX8_changesOne_68 : decode cX8_changesOne 68 = .ok (.iconst 0, 1) := by decide +kernel
theorem dX8_changesOne_69 : decode cX8_changesOne 69 = .ok (.ireturn, 1) := by decide +kernel
theorem dX8_changesOne_70 : decode cX8_changesOne 70 = .ok (.aload_n 0, 1) := by decide +kernel
theorem dX8_changesOne_71 : decode cX8_changesOne 71 = .ok (.iload 4, 2) := by decide +kernel
theorem dX8_changesOne_73 : decode cX8_changesOne 73 = .ok (.invokevirtual 167, 3) := by decide +kernel
theorem dX8_changesOne_76 : decode cX8_changesOne 76 = .ok (.aload_n 0, 1) := by decide +kernel
theorem dX8_changesOne_77 : decode cX8_changesOne 77 = .ok (.iload_n 1, 1) := by decide +kernel
theorem dX8_changesOne_78 : decode cX8_changesOne 78 = .ok (.iconst 1, 1) := by decide +kernel
theorem dX8_changesOne_79 : decode cX8_changesOne 79 = .ok (.invokevirtual 170, 3) := by decide +kernel
theorem dX8_changesOne_82 : decode cX8_changesOne 82 = .ok (.aload_n 0, 1) := by decide +kernel
theorem dX8_changesOne_83 : decode cX8_changesOne 83 = .ok (.iload 5, 2) := by decide +kernel
theorem dX8_changesOne_85 : decode cX8_changesOne 85 = .ok (.iconst 1, 1) := by decide +kernel
theorem dX8_changesOne_86 : decode cX8_changesOne 86 = .ok (.invokevirtual 170, 3) := by decide +kernel
theorem dX8_changesOne_89 : decode cX8_changesOne 89 = .ok (.iconst 1, 1) := by decide +kernel
theorem dX8_changesOne_90 : decode cX8_changesOne 90 = .ok (.ireturn, 1) := by decide +kernel
theorem dX8_stops_0 : decode cX8_stops 0 = .ok (.iconst 0, 1) := by decide +kernel
theorem dX8_stops_1 : decode cX8_stops 1 = .ok (.istore_n 3, 1) := by decide +kernel
theorem dX8_stops_2 : decode cX8_stops 2 = .ok (.iload_n 3, 1) := by decide +kernel
theorem dX8_stops_3 : decode cX8_stops 3 = .ok (.aload_n 0, 1) := by decide +kernel
theorem dX8_stops_4 : decode cX8_stops 4 = .ok (.getfield 120, 3) := by decide +kernel
theorem dX8_stops_7 : decode cX8_stops 7 = .ok (.if_icmp .ge 95, 3) := by decide +kernel
theorem dX8_stops_10 : decode cX8_stops 10 = .ok (.aload_n 0, 1) := by decide +kernel
theorem dX8_stops_11 : decode cX8_stops 11 = .ok (.getfield 150, 3) := by decide +kernel
theorem dX8_stops_14 : decode cX8_stops 14 = .ok (.iload_n 3, 1) := by decide +kernel
theorem dX8_stops_15 : decode cX8_stops 15 = .ok (.invokestatic 153, 3) := by decide +kernel
theorem dX8_stops_18 : decode cX8_stops 18 = .ok (.ifCond .eq 78, 3) := by decide +kernel
theorem dX8_stops_21 : decode cX8_stops 21 = .ok (.aload_n 0, 1) := by decide +kernel
theorem dX8_stops_22 : decode cX8_stops 22 = .ok (.getfield 28, 3) := by decide +kernel
theorem dX8_stops_25 : decode cX8_stops 25 = .ok (.iconst 4, 1) := by decide +kernel
theorem dX8_stops_26 : decode cX8_stops 26 = .ok (.iload_n 3, 1) := by decide +kernel
theorem dX8_stops_27 : decode cX8_stops 27 = .ok (.imul, 1) := by decide +kernel
theorem dX8_stops_28 : decode cX8_stops 28 = .ok (.iconst 2, 1) := by decide +kernel
theorem dX8_stops_29 : decode cX8_stops 29 = .ok (.iadd, 1) := by decide +kernel
theorem dX8_stops_30 : decode cX8_stops 30 = .ok (.iaload, 1) := by decide +kernel
theorem dX8_stops_31 : decode cX8_stops 31 = .ok (.iload_n 2, 1) := by decide +kernel
theorem dX8_stops_32 : decode cX8_stops 32 = .ok (.if_icmp .ne 64, 3) := by decide +kernel
theorem dX8_stops_35 : decode cX8_stops 35 = .ok (.aload_n 0, 1) := by decide +kernel
theorem dX8_stops_36 : decode cX8_stops 36 = .ok (.dup, 1) := by decide +kernel
theorem dX8_stops_37 : decode cX8_stops 37 = .ok (.getfield 150, 3) := by decide +kernel
theorem dX8_stops_40 : decode cX8_stops 40 = .ok (.iconst 1, 1) := by decide +kernel
theorem dX8_stops_41 : decode cX8_stops 41 = .ok (.iload_n 3, 1) := by decide +kernel
theorem dX8_stops_42 : decode cX8_stops 42 = .ok (.ishl, 1) := by decide +kernel
theorem dX8_stops_43 : decode cX8_stops 43 = .ok (.iconst (-1), 1) := by decide +kernel
theorem dX8_stops_44 : decode cX8_stops 44 = .ok (.ixor, 1) := by decide +kernel
theorem dX8_stops_45 : decode cX8_stops 45 = .ok (.iand, 1) := by decide +kernel
theorem dX8_stops_46 : decode cX8_stops 46 = .ok (.putfield 150, 3) := by decide +kernel
theorem dX8_stops_49 : decode cX8_stops 49 = .ok (.aload_n 0, 1) := by decide +kernel
theorem dX8_stops_50 : decode cX8_stops 50 = .ok (.getfield 37, 3) := by decide +kernel
theorem dX8_stops_53 : decode cX8_stops 53 = .ok (.iconst 2, 1) := by decide +kernel
theorem dX8_stops_54 : decode cX8_stops 54 = .ok (.iaload, 1) := by decide +kernel
theorem dX8_stops_55 : decode cX8_stops 55 = .ok (.iload_n 3, 1) := by decide +kernel
theorem dX8_stops_56 : decode cX8_stops 56 = .ok (.invokestatic 153, 3) := by decide +kernel
theorem dX8_stops_59 : decode cX8_stops 59 = .ok (.ifCond .eq 37, 3) := by decide +kernel
theorem dX8_stops_62 : decode cX8_stops 62 = .ok (.aload_n 0, 1) := by decide +kernel
theorem dX8_stops_63 : decode cX8_stops 63 = .ok (.getfield 40, 3) := by decide +kernel
theorem dX8_stops_66 : decode cX8_stops 66 = .ok (.iload_n 3, 1) := by decide +kernel
theorem dX8_stops_67 : decode cX8_stops 67 = .ok (.iaload, 1) := by decide +kernel
theorem dX8_stops_68 : decode cX8_stops 68 = .ok (.iconst (-1), 1) := by decide +kernel
theorem dX8_stops_69 : decode cX8_stops 69 = .ok (.if_icmp .eq 27, 3) := by decide +kernel
theorem dX8_stops_72 : decode cX8_stops 72 = .ok (.aload_n 0, 1) := by decide +kernel
theorem dX8_stops_73 : decode cX8_stops 73 = .ok (.aload_n 0, 1) := by decide +kernel
theorem dX8_stops_74 : decode cX8_stops 74 = .ok (.getfield 40, 3) := by decide +kernel
theorem dX8_stops_77 : decode cX8_stops 77 = .ok (.iload_n 3, 1) := by decide +kernel
theorem dX8_stops_78 : decode cX8_stops 78 = .ok (.iaload, 1) := by decide +kernel
theorem dX8_stops_79 : decode cX8_stops 79 = .ok (.invokevirtual 160, 3) := by decide +kernel
theorem dX8_stops_82 : decode cX8_stops 82 = .ok (.aload_n 0, 1) := by decide +kernel
theorem dX8_stops_83 : decode cX8_stops 83 = .ok (.getfield 40, 3) := by decide +kernel
theorem dX8_stops_86 : decode cX8_stops 86 = .ok (.iload_n 3, 1) := by decide +kernel
theorem dX8_stops_87 : decode cX8_stops 87 = .ok (.iconst (-1), 1) := by decide +kernel
theorem dX8_stops_88 : decode cX8_stops 88 = .ok (.iastore, 1) := by decide +kernel
theorem dX8_stops_89 : decode cX8_stops 89 = .ok (.aload_n 0, 1) := by decide +kernel
theorem dX8_stops_90 : decode cX8_stops 90 = .ok (.getfield 43, 3) := by decide +kernel
theorem dX8_stops_93 : decode cX8_stops 93 = .ok (.iload_n 3, 1) := by decide +kernel
theorem dX8_stops_94 : decode cX8_stops 94 = .ok (.iconst 0, 1) := by decide +kernel
theorem dX8_stops_95 : decode cX8_stops 95 = .ok (.iastore, 1) := by decide +kernel
theorem dX8_stops_96 : decode cX8_stops 96 = .ok (.iinc 3 1, 3) := by decide +kernel
theorem dX8_stops_99 : decode cX8_stops 99 = .ok (.goto (-97), 3) := by decide +kernel
theorem dX8_stops_102 : decode cX8_stops 102 = .ok (.iconst 0, 1) := by decide +kernel
theorem dX8_stops_103 : decode cX8_stops 103 = .ok (.istore_n 3, 1) := by decide +kernel
theorem dX8_stops_104 : decode cX8_stops 104 = .ok (.iload_n 3, 1) := by decide +kernel
theorem dX8_stops_105 : decode cX8_stops 105 = .ok (.aload_n 0, 1) := by decide +kernel
theorem dX8_stops_106 : decode cX8_stops 106 = .ok (.getfield 120, 3) := by decide +kernel
theorem dX8_stops_109 : decode cX8_stops 109 = .ok (.if_icmp .ge 53, 3) := by decide +kernel
theorem dX8_stops_112 : decode cX8_stops 112 = .ok (.aload_n 0, 1) := by decide +kernel
theorem dX8_stops_113 : decode cX8_stops 113 = .ok (.dup, 1) := by decide +kernel
theorem dX8_stops_114 : decode cX8_stops 114 = .ok (.getfield 150, 3) := by decide +kernel
theorem dX8_stops_117 : decode cX8_stops 117 = .ok (.aload_n 0, 1) := by decide +kernel
theorem dX8_stops_118 : decode cX8_stops 118 = .ok (.getfield 28, 3) := by decide +kernel
theorem dX8_stops_121 : decode cX8_stops 121 = .ok (.iconst 4, 1) := by decide +kernel
theorem dX8_stops_122 : decode cX8_stops 122 = .ok (.iload_n 3, 1) := by decide +kernel
theorem dX8_stops_123 : decode cX8_stops 123 = .ok (.imul, 1) := by decide +kernel
theorem dX8_stops_124 : decode cX8_stops 124 = .ok (.iconst 1, 1) := by decide +kernel
theorem dX8_stops_125 : decode cX8_stops 125 = .ok (.iadd, 1) := by decide +kernel
theorem dX8_stops_126 : decode cX8_stops 126 = .ok (.iaload, 1) := by decide +kernel
theorem dX8_stops_127 : decode cX8_stops 127 = .ok (.iload_n 2, 1) := by decide +kernel
theorem dX8_stops_128 : decode cX8_stops 128 = .ok (.if_icmp .ne 23, 3) := by decide +kernel
theorem dX8_stops_131 : decode cX8_stops 131 = .ok (.aload_n 0, 1) := by decide +kernel
theorem dX8_stops_132 : decode cX8_stops 132 = .ok (.getfield 28, 3) := by decide +kernel
theorem dX8_stops_135 : decode cX8_stops 135 = .ok (.iconst 4, 1) := by decide +kernel
theorem dX8_stops_136 : decode cX8_stops 136 = .ok (.iload_n 3, 1) := by decide +kernel
theorem dX8_stops_137 : decode cX8_stops 137 = .ok (.imul, 1) := by decide +kernel
theorem dX8_stops_138 : decode cX8_stops 138 = .ok (.iconst 2, 1) := by decide +kernel
theorem dX8_stops_139 : decode cX8_stops 139 = .ok (.iadd, 1) := by decide +kernel
theorem dX8_stops_140 : decode cX8_stops 140 = .ok (.iaload, 1) := by decide +kernel
theorem dX8_stops_141 : decode cX8_stops 141 = .ok (.iload_n 2, 1) := by decide +kernel
theorem dX8_stops_142 : decode cX8_stops 142 = .ok (.if_icmp .le 9, 3) := by decide +kernel
theorem dX8_stops_145 : decode cX8_stops 145 = .ok (.iconst 1, 1) := by decide +kernel
theorem dX8_stops_146 : decode cX8_stops 146 = .ok (.iload_n 3, 1) := by decide +kernel
theorem dX8_stops_147 : decode cX8_stops 147 = .ok (.ishl, 1) := by decide +kernel
theorem dX8_stops_148 : decode cX8_stops 148 = .ok (.goto 4, 3) := by decide +kernel
theorem dX8_stops_151 : decode cX8_stops 151 = .ok (.iconst 0, 1) := by decide +kernel
theorem dX8_stops_152 : decode cX8_stops 152 = .ok (.ior, 1) := by decide +kernel
theorem dX8_stops_153 : decode cX8_stops 153 = .ok (.putfield 150, 3) := by decide +kernel
theorem dX8_stops_156 : decode cX8_stops 156 = .ok (.iinc 3 1, 3) := by decide +kernel
theorem dX8_stops_159 : decode cX8_stops 159 = .ok (.goto (-55), 3) := by decide +kernel
theorem dX8_stops_162 : decode cX8_stops 162 = .ok (.iconst 0, 1) := by decide +kernel
theorem dX8_stops_163 : decode cX8_stops 163 = .ok (.istore_n 3, 1) := by decide +kernel
theorem dX8_stops_164 : decode cX8_stops 164 = .ok (.iload_n 3, 1) := by decide +kernel
theorem dX8_stops_165 : decode cX8_stops 165 = .ok (.aload_n 0, 1) := by decide +kernel
theorem dX8_stops_166 : decode cX8_stops 166 = .ok (.getfield 120, 3) := by decide +kernel
theorem dX8_stops_169 : decode cX8_stops 169 = .ok (.if_icmp .ge 76, 3) := by decide +kernel
theorem dX8_stops_172 : decode cX8_stops 172 = .ok (.aload_n 0, 1) := by decide +kernel
theorem dX8_stops_173 : decode cX8_stops 173 = .ok (.getfield 37, 3) := by decide +kernel
theorem dX8_stops_176 : decode cX8_stops 176 = .ok (.iconst 1, 1) := by decide +kernel
theorem dX8_stops_177 : decode cX8_stops 177 = .ok (.iaload, 1) := by decide +kernel
theorem dX8_stops_178 : decode cX8_stops 178 = .ok (.iload_n 2, 1) := by decide +kernel
theorem dX8_stops_179 : decode cX8_stops 179 = .ok (.invokestatic 153, 3) := by decide +kernel
theorem dX8_stops_182 : decode cX8_stops 182 = .ok (.ifCond .eq 63, 3) := by decide +kernel
theorem dX8_stops_185 : decode cX8_stops 185 = .ok (.aload_n 0, 1) := by decide +kernel
theorem dX8_stops_186 : decode cX8_stops 186 = .ok (.iload_n 3, 1) := by decide +kernel
theorem dX8_stops_187 : decode cX8_stops 187 = .ok (.invokevirtual 157, 3) := by decide +kernel
theorem dX8_stops_190 : decode cX8_stops 190 = .ok (.ifCond .eq 49, 3) := by decide +kernel
theorem dX8_stops_193 : decode cX8_stops 193 = .ok (.aload_n 0, 1) := by decide +kernel
theorem dX8_stops_194 : decode cX8_stops 194 = .ok (.iload_n 3, 1) := by decide +kernel
theorem dX8_stops_195 : decode cX8_stops 195 = .ok (.invokevirtual 177, 3) := by decide +kernel
theorem dX8_stops_198 : decode cX8_stops 198 = .ok (.ifCond .eq 41, 3) := by decide +kernel
theorem dX8_stops_201 : decode cX8_stops 201 = .ok (.aload_n 0, 1) := by decide +kernel
theorem dX8_stops_202 : decode cX8_stops 202 = .ok (.getfield 180, 3) := by decide +kernel
theorem dX8_stops_205 : decode cX8_stops 205 = .ok (.ifCond .ne 24, 3) := by decide +kernel
theorem dX8_stops_208 : decode cX8_stops 208 = .ok (.aload_n 0, 1) := by decide +kernel
theorem dX8_stops_209 : decode cX8_stops 209 = .ok (.getfield 61, 3) := by decide +kernel
theorem dX8_stops_212 : decode cX8_stops 212 = .ok (.iconst 0, 1) := by decide +kernel
theorem dX8_stops_213 : decode cX8_stops 213 = .ok (.iload_n 1, 1) := by decide +kernel
theorem dX8_stops_214 : decode cX8_stops 214 = .ok (.iastore, 1) := by decide +kernel
theorem dX8_stops_215 : decode cX8_stops 215 = .ok (.aload_n 0, 1) := by decide +kernel
theorem dX8_stops_216 : decode cX8_stops 216 = .ok (.getfield 61, 3) := by decide +kernel
theorem dX8_stops_219 : decode cX8_stops 219 = .ok (.iconst 1, 1) := by decide +kernel
theorem dX8_stops_220 : decode cX8_stops 220 = .ok (.iload_n 2, 1) := by decide +kernel
theorem dX8_stops_221 : decode cX8_stops 221 = .ok (.iastore, 1) := by decide +kernel
theorem dX8_stops_222 : decode cX8_stops 222 = .ok (.aload_n 0, 1) := by decide +kernel
theorem dX8_stops_223 : decode cX8_stops 223 = .ok (.getfield 61, 3) := by decide +kernel
theorem dX8_stops_226 : decode cX8_stops 226 = .ok (.iconst 2, 1) := by decide +kernel
theorem dX8_stops_227 : decode cX8_stops 227 = .ok (.iload_n 3, 1) := by decide +kernel
theorem dX8_stops_228 : decode cX8_stops 228 = .ok (.iastore, 1) := by decide +kernel
theorem dX8_stops_229 : decode cX8_stops 229 = .ok (.aload_n 0, 1) := by decide +kernel
theorem dX8_stops_230 : decode cX8_stops 230 = .ok (.dup, 1) := by decide +kernel
theorem dX8_stops_231 : decode cX8_stops 231 = .ok (.getfield 180, 3) := by decide +kernel
theorem dX8_stops_234 : decode cX8_stops 234 = .ok (.iconst 1, 1) := by decide +kernel
theorem dX8_stops_235 : decode cX8_stops 235 = .ok (.iadd, 1) := by decide +kernel
theorem dX8_stops_236 : decode cX8_stops 236 = .ok (.putfield 180, 3) := by decide +kernel
theorem dX8_stops_239 : decode cX8_stops 239 = .ok (.iinc 3 1, 3) := by decide +kernel
theorem dX8_stops_242 : decode cX8_stops 242 = .ok (.goto (-78), 3) := by decide +kernel
theorem dX8_stops_245 : decode cX8_stops 245 = .ok (.return_, 1) := by decide +kernel
theorem dX8_keeps_0 : decode cX8_keeps 0 = .ok (.iconst 0, 1) := by decide +kernel
theorem dX8_keeps_1 : decode cX8_keeps 1 = .ok (.istore_n 2, 1) := by decide +kernel
theorem dX8_keeps_2 : decode cX8_keeps 2 = .ok (.iload_n 2, 1) := by decide +kernel
theorem dX8_keeps_3 : decode cX8_keeps 3 = .ok (.aload_n 0, 1) := by decide +kernel
theorem dX8_keeps_4 : decode cX8_keeps 4 = .ok (.getfield 120, 3) := by decide +kernel
theorem dX8_keeps_7 : decode cX8_keeps 7 = .ok (.if_icmp .ge 43, 3) := by decide +kernel
theorem dX8_keeps_10 : decode cX8_keeps 10 = .ok (.aload_n 0, 1) := by decide +kernel
theorem dX8_keeps_11 : decode cX8_keeps 11 = .ok (.getfield 49, 3) := by decide +kernel
theorem dX8_keeps_14 : decode cX8_keeps 14 = .ok (.bipush 8, 2) := by decide +kernel
theorem dX8_keeps_16 : decode cX8_keeps 16 = .ok (.iload_n 1, 1) := by decide +kernel
theorem dX8_keeps_17 : decode cX8_keeps 17 = .ok (.imul, 1) := by decide +kernel
theorem dX8_keeps_18 : decode cX8_keeps 18 = .ok (.iload_n 2, 1) := by decide +kernel
theorem dX8_keeps_19 : decode cX8_keeps 19 = .ok (.iadd, 1) := by decide +kernel
theorem dX8_keeps_20 : decode cX8_keeps 20 = .ok (.aload_n 0, 1) := by decide +kernel
theorem dX8_keeps_21 : decode cX8_keeps 21 = .ok (.getfield 40, 3) := by decide +kernel
theorem dX8_keeps_24 : decode cX8_keeps 24 = .ok (.iload_n 2, 1) := by decide +kernel
theorem dX8_keeps_25 : decode cX8_keeps 25 = .ok (.iaload, 1) := by decide +kernel
theorem dX8_keeps_26 : decode cX8_keeps 26 = .ok (.iastore, 1) := by decide +kernel
theorem dX8_keeps_27 : decode cX8_keeps 27 = .ok (.aload_n 0, 1) := by decide +kernel
theorem dX8_keeps_28 : decode cX8_keeps 28 = .ok (.getfield 52, 3) := by decide +kernel
theorem dX8_keeps_31 : decode cX8_keeps 31 = .ok (.bipush 8, 2) := by decide +kernel
theorem dX8_keeps_33 : decode cX8_keeps 33 = .ok (.iload_n 1, 1) := by decide +kernel
theorem dX8_keeps_34 : decode cX8_keeps 34 = .ok (.imul, 1) := by decide +kernel
theorem dX8_keeps_35 : decode cX8_keeps 35 = .ok (.iload_n 2, 1) := by decide +kernel
theorem dX8_keeps_36 : decode cX8_keeps 36 = .ok (.iadd, 1) := by decide +kernel
theorem dX8_keeps_37 : decode cX8_keeps 37 = .ok (.aload_n 0, 1) := by decide +kernel
theorem dX8_keeps_38 : decode cX8_keeps 38 = .ok (.getfield 43, 3) := by decide +kernel
theorem dX8_keeps_41 : decode cX8_keeps 41 = .ok (.iload_n 2, 1) := by decide +kernel
theorem dX8_keeps_42 : decode cX8_keeps 42 = .ok (.iaload, 1) := by decide +kernel
theorem dX8_keeps_43 : decode cX8_keeps 43 = .ok (.iastore, 1) := by decide +kernel
theorem dX8_keeps_44 : decode cX8_keeps 44 = .ok (.iinc 2 1, 3) := by decide +kernel
theorem dX8_keeps_47 : decode cX8_keeps 47 = .ok (.goto (-45), 3) := by decide +kernel
theorem dX8_keeps_50 : decode cX8_keeps 50 = .ok (.aload_n 0, 1) := by decide +kernel
theorem dX8_keeps_51 : decode cX8_keeps 51 = .ok (.getfield 55, 3) := by decide +kernel
theorem dX8_keeps_54 : decode cX8_keeps 54 = .ok (.iload_n 1, 1) := by decide +kernel
theorem dX8_keeps_55 : decode cX8_keeps 55 = .ok (.aload_n 0, 1) := by decide +kernel
theorem dX8_keeps_56 : decode cX8_keeps 56 = .ok (.getfield 147, 3) := by decide +kernel
theorem dX8_keeps_59 : decode cX8_keeps 59 = .ok (.iastore, 1) := by decide +kernel
theorem dX8_keeps_60 : decode cX8_keeps 60 = .ok (.iconst 0, 1) := by decide +kernel
theorem dX8_keeps_61 : decode cX8_keeps 61 = .ok (.istore_n 2, 1) := by decide +kernel
theorem dX8_keeps_62 : decode cX8_keeps 62 = .ok (.iload_n 2, 1) := by decide +kernel
theorem dX8_keeps_63 : decode cX8_keeps 63 = .ok (.aload_n 0, 1) := by decide +kernel
theorem dX8_keeps_64 : decode cX8_keeps 64 = .ok (.getfield 147, 3) := by decide +kernel
theorem dX8_keeps_67 : decode cX8_keeps 67 = .ok (.if_icmp .ge 26, 3) := by decide +kernel
theorem dX8_keeps_70 : decode cX8_keeps 70 = .ok (.aload_n 0, 1) := by decide +kernel
theorem dX8_keeps_71 : decode cX8_keeps 71 = .ok (.getfield 58, 3) := by decide +kernel
theorem dX8_keeps_74 : decode cX8_keeps 74 = .ok (.bipush 29, 2) := by decide +kernel
theorem dX8_keeps_76 : decode cX8_keeps 76 = .ok (.iload_n 1, 1) := by decide +kernel
theorem dX8_keeps_77 : decode cX8_keeps 77 = .ok (.imul, 1) := by decide +kernel
theorem dX8_keeps_78 : decode cX8_keeps 78 = .ok (.iload_n 2, 1) := by decide +kernel
theorem dX8_keeps_79 : decode cX8_keeps 79 = .ok (.iadd, 1) := by decide +kernel
theorem dX8_keeps_80 : decode cX8_keeps 80 = .ok (.aload_n 0, 1) := by decide +kernel
theorem dX8_keeps_81 : decode cX8_keeps 81 = .ok (.getfield 46, 3) := by decide +kernel
theorem dX8_keeps_84 : decode cX8_keeps 84 = .ok (.iload_n 2, 1) := by decide +kernel
theorem dX8_keeps_85 : decode cX8_keeps 85 = .ok (.iaload, 1) := by decide +kernel
theorem dX8_keeps_86 : decode cX8_keeps 86 = .ok (.iastore, 1) := by decide +kernel
theorem dX8_keeps_87 : decode cX8_keeps 87 = .ok (.iinc 2 1, 3) := by decide +kernel
theorem dX8_keeps_90 : decode cX8_keeps 90 = .ok (.goto (-28), 3) := by decide +kernel
theorem dX8_keeps_93 : decode cX8_keeps 93 = .ok (.return_, 1) := by decide +kernel
theorem dX8_begins_0 : decode cX8_begins 0 = .ok (.aload_n 0, 1) := by decide +kernel
theorem dX8_begins_1 : decode cX8_begins 1 = .ok (.iconst 0, 1) := by decide +kernel
theorem dX8_begins_2 : decode cX8_begins 2 = .ok (.putfield 147, 3) := by decide +kernel
theorem dX8_begins_5 : decode cX8_begins 5 = .ok (.aload_n 0, 1) := by decide +kernel
theorem dX8_begins_6 : decode cX8_begins 6 = .ok (.getfield 70, 3) := by decide +kernel
theorem dX8_begins_9 : decode cX8_begins 9 = .ok (.iconst (-1), 1) := by decide +kernel
theorem dX8_begins_10 : decode cX8_begins 10 = .ok (.if_icmp .eq 11, 3) := by decide +kernel
theorem dX8_begins_13 : decode cX8_begins 13 = .ok (.aload_n 0, 1) := by decide +kernel
theorem dX8_begins_14 : decode cX8_begins 14 = .ok (.aload_n 0, 1) := by decide +kernel
theorem dX8_begins_15 : decode cX8_begins 15 = .ok (.getfield 70, 3) := by decide +kernel
theorem dX8_begins_18 : decode cX8_begins 18 = .ok (.invokevirtual 160, 3) := by decide +kernel
theorem dX8_begins_21 : decode cX8_begins 21 = .ok (.iconst 0, 1) := by decide +kernel
theorem dX8_begins_22 : decode cX8_begins 22 = .ok (.istore_n 1, 1) := by decide +kernel
theorem dX8_begins_23 : decode cX8_begins 23 = .ok (.iload_n 1, 1) := by decide +kernel
theorem dX8_begins_24 : decode cX8_begins 24 = .ok (.aload_n 0, 1) := by decide +kernel
theorem dX8_begins_25 : decode cX8_begins 25 = .ok (.getfield 126, 3) := by decide +kernel
theorem dX8_begins_28 : decode cX8_begins 28 = .ok (.if_icmp .ge 19, 3) := by decide +kernel
theorem dX8_begins_31 : decode cX8_begins 31 = .ok (.aload_n 0, 1) := by decide +kernel
theorem dX8_begins_32 : decode cX8_begins 32 = .ok (.aload_n 0, 1) := by decide +kernel
theorem dX8_begins_33 : decode cX8_begins 33 = .ok (.getfield 31, 3) := by decide +kernel
theorem dX8_begins_36 : decode cX8_begins 36 = .ok (.iload_n 1, 1) := by decide +kernel
theorem dX8_begins_37 : decode cX8_begins 37 = .ok (.iaload, 1) := by decide +kernel
theorem dX8_begins_38 : decode cX8_begins 38 = .ok (.invokevirtual 160, 3) := by decide +kernel
theorem dX8_begins_41 : decode cX8_begins 41 = .ok (.iinc 1 1, 3) := by decide +kernel
theorem dX8_begins_44 : decode cX8_begins 44 = .ok (.goto (-21), 3) := by decide +kernel
theorem dX8_begins_47 : decode cX8_begins 47 = .ok (.iconst 0, 1) := by decide +kernel
theorem dX8_begins_48 : decode cX8_begins 48 = .ok (.istore_n 1, 1) := by decide +kernel
theorem dX8_begins_49 : decode cX8_begins 49 = .ok (.iload_n 1, 1) := by decide +kernel
theorem dX8_begins_50 : decode cX8_begins 50 = .ok (.aload_n 0, 1) := by decide +kernel
theorem dX8_begins_51 : decode cX8_begins 51 = .ok (.getfield 120, 3) := by decide +kernel
theorem dX8_begins_54 : decode cX8_begins 54 = .ok (.if_icmp .ge 30, 3) := by decide +kernel
theorem dX8_begins_57 : decode cX8_begins 57 = .ok (.aload_n 0, 1) := by decide +kernel
theorem dX8_begins_58 : decode cX8_begins 58 = .ok (.getfield 40, 3) := by decide +kernel
theorem dX8_begins_61 : decode cX8_begins 61 = .ok (.iload_n 1, 1) := by decide +kernel
theorem dX8_begins_62 : decode cX8_begins 62 = .ok (.aload_n 0, 1) := by decide +kernel
theorem dX8_begins_63 : decode cX8_begins 63 = .ok (.getfield 28, 3) := by decide +kernel
theorem dX8_begins_66 : decode cX8_begins 66 = .ok (.iconst 4, 1) := by decide +kernel
theorem dX8_begins_67 : decode cX8_begins 67 = .ok (.iload_n 1, 1) := by decide +kernel
theorem dX8_begins_68 : decode cX8_begins 68 = .ok (.imul, 1) := by decide +kernel
theorem dX8_begins_69 : decode cX8_begins 69 = .ok (.iaload, 1) := by decide +kernel
theorem dX8_begins_70 : decode cX8_begins 70 = .ok (.iastore, 1) := by decide +kernel
theorem dX8_begins_71 : decode cX8_begins 71 = .ok (.aload_n 0, 1) := by decide +kernel
theorem dX8_begins_72 : decode cX8_begins 72 = .ok (.getfield 43, 3) := by decide +kernel
theorem dX8_begins_75 : decode cX8_begins 75 = .ok (.iload_n 1, 1) := by decide +kernel
theorem dX8_begins_76 : decode cX8_begins 76 = .ok (.iconst 0, 1) := by decide +kernel
theorem dX8_begins_77 : decode cX8_begins 77 = .ok (.iastore, 1) := by decide +kernel
theorem dX8_begins_78 : decode cX8_begins 78 = .ok (.iinc 1 1, 3) := by decide +kernel
theorem dX8_begins_81 : decode cX8_begins 81 = .ok (.goto (-32), 3) := by decide +kernel
theorem dX8_begins_84 : decode cX8_begins 84 = .ok (.aload_n 0, 1) := by decide +kernel
theorem dX8_begins_85 : decode cX8_begins 85 = .ok (.getfield 61, 3) := by decide +kernel
theorem dX8_begins_88 : decode cX8_begins 88 = .ok (.iconst 0, 1) := by decide +kernel
theorem dX8_begins_89 : decode cX8_begins 89 = .ok (.iconst (-1), 1) := by decide +kernel
theorem dX8_begins_90 : decode cX8_begins 90 = .ok (.iastore, 1) := by decide +kernel
theorem dX8_begins_91 : decode cX8_begins 91 = .ok (.aload_n 0, 1) := by decide +kernel
theorem dX8_begins_92 : decode cX8_begins 92 = .ok (.getfield 61, 3) := by decide +kernel
theorem dX8_begins_95 : decode cX8_begins 95 = .ok (.iconst 1, 1) := by decide +kernel
theorem dX8_begins_96 : decode cX8_begins 96 = .ok (.iconst (-1), 1) := by decide +kernel
theorem dX8_begins_97 : decode cX8_begins 97 = .ok (.iastore, 1) := by decide +kernel
theorem dX8_begins_98 : decode cX8_begins 98 = .ok (.aload_n 0, 1) := by decide +kernel
theorem dX8_begins_99 : decode cX8_begins 99 = .ok (.getfield 61, 3) := by decide +kernel
theorem dX8_begins_102 : decode cX8_begins 102 = .ok (.iconst 2, 1) := by decide +kernel
theorem dX8_begins_103 : decode cX8_begins 103 = .ok (.iconst (-1), 1) := by decide +kernel
theorem dX8_begins_104 : decode cX8_begins 104 = .ok (.iastore, 1) := by decide +kernel
theorem dX8_begins_105 : decode cX8_begins 105 = .ok (.aload_n 0, 1) := by decide +kernel
theorem dX8_begins_106 : decode cX8_begins 106 = .ok (.iconst 0, 1) := by decide +kernel
theorem dX8_begins_107 : decode cX8_begins 107 = .ok (.putfield 180, 3) := by decide +kernel
theorem dX8_begins_110 : decode cX8_begins 110 = .ok (.aload_n 0, 1) := by decide +kernel
theorem dX8_begins_111 : decode cX8_begins 111 = .ok (.iconst (-1), 1) := by decide +kernel
theorem dX8_begins_112 : decode cX8_begins 112 = .ok (.putfield 183, 3) := by decide +kernel
theorem dX8_begins_115 : decode cX8_begins 115 = .ok (.return_, 1) := by decide +kernel
theorem dX8_lives_0 : decode cX8_lives 0 = .ok (.aload_n 0, 1) := by decide +kernel
theorem dX8_lives_1 : decode cX8_lives 1 = .ok (.invokevirtual 186, 3) := by decide +kernel
theorem dX8_lives_4 : decode cX8_lives 4 = .ok (.iconst 0, 1) := by decide +kernel
theorem dX8_lives_5 : decode cX8_lives 5 = .ok (.istore_n 1, 1) := by decide +kernel
theorem dX8_lives_6 : decode cX8_lives 6 = .ok (.iload_n 1, 1) := by decide +kernel
theorem dX8_lives_7 : decode cX8_lives 7 = .ok (.bipush 10, 2) := by decide +kernel
theorem dX8_lives_9 : decode cX8_lives 9 = .ok (.if_icmp .ge 72, 3) := by decide +kernel
theorem dX8_lives_12 : decode cX8_lives 12 = .ok (.aload_n 0, 1) := by decide +kernel
theorem dX8_lives_13 : decode cX8_lives 13 = .ok (.getfield 180, 3) := by decide +kernel
theorem dX8_lives_16 : decode cX8_lives 16 = .ok (.istore_n 2, 1) := by decide +kernel
theorem dX8_lives_17 : decode cX8_lives 17 = .ok (.aload_n 0, 1) := by decide +kernel
theorem dX8_lives_18 : decode cX8_lives 18 = .ok (.iconst 0, 1) := by decide +kernel
theorem dX8_lives_19 : decode cX8_lives 19 = .ok (.putfield 150, 3) := by decide +kernel
theorem dX8_lives_22 : decode cX8_lives 22 = .ok (.iconst 0, 1) := by decide +kernel
theorem dX8_lives_23 : decode cX8_lives 23 = .ok (.istore_n 3, 1) := by decide +kernel
theorem dX8_lives_24 : decode cX8_lives 24 = .ok (.iload_n 3, 1) := by decide +kernel
theorem dX8_lives_25 : decode cX8_lives 25 = .ok (.bipush 10, 2) := by decide +kernel
theorem dX8_lives_27 : decode cX8_lives 27 = .ok (.if_icmp .ge 15, 3) := by decide +kernel
theorem dX8_lives_30 : decode cX8_lives 30 = .ok (.aload_n 0, 1) := by decide +kernel
theorem dX8_lives_31 : decode cX8_lives 31 = .ok (.iload_n 1, 1) := by decide +kernel
theorem dX8_lives_32 : decode cX8_lives 32 = .ok (.iload_n 3, 1) := by decide +kernel
theorem dX8_lives_33 : decode cX8_lives 33 = .ok (.invokevirtual 189, 3) := by decide +kernel
theorem dX8_lives_36 : decode cX8_lives 36 = .ok (.iinc 3 1, 3) := by decide +kernel
theorem dX8_lives_39 : decode cX8_lives 39 = .ok (.goto (-15), 3) := by decide +kernel
theorem dX8_lives_42 : decode cX8_lives 42 = .ok (.aload_n 0, 1) := by decide +kernel
theorem dX8_lives_43 : decode cX8_lives 43 = .ok (.aload_n 0, 1) := by decide +kernel
theorem dX8_lives_44 : decode cX8_lives 44 = .ok (.getfield 183, 3) := by decide +kernel
theorem dX8_lives_47 : decode cX8_lives 47 = .ok (.iconst (-1), 1) := by decide +kernel
theorem dX8_lives_48 : decode cX8_lives 48 = .ok (.if_icmp .ne 15, 3) := by decide +kernel
theorem dX8_lives_51 : decode cX8_lives 51 = .ok (.aload_n 0, 1) := by decide +kernel
theorem dX8_lives_52 : decode cX8_lives 52 = .ok (.getfield 180, 3) := by decide +kernel
theorem dX8_lives_55 : decode cX8_lives 55 = .ok (.iload_n 2, 1) := by decide +kernel
theorem dX8_lives_56 : decode cX8_lives 56 = .ok (.if_icmp .ne 7, 3) := by decide +kernel
theorem dX8_lives_59 : decode cX8_lives 59 = .ok (.iload_n 1, 1) := by decide +kernel
theorem dX8_lives_60 : decode cX8_lives 60 = .ok (.goto 7, 3) := by decide +kernel
theorem dX8_lives_63 : decode cX8_lives 63 = .ok (.aload_n 0, 1) := by decide +kernel
theorem dX8_lives_64 : decode cX8_lives 64 = .ok (.getfield 183, 3) := by decide +kernel
theorem dX8_lives_67 : decode cX8_lives 67 = .ok (.putfield 183, 3) := by decide +kernel
theorem dX8_lives_70 : decode cX8_lives 70 = .ok (.aload_n 0, 1) := by decide +kernel
theorem dX8_lives_71 : decode cX8_lives 71 = .ok (.iload_n 1, 1) := by decide +kernel
theorem dX8_lives_72 : decode cX8_lives 72 = .ok (.invokevirtual 192, 3) := by decide +kernel
theorem dX8_lives_75 : decode cX8_lives 75 = .ok (.iinc 1 1, 3) := by decide +kernel
theorem dX8_lives_78 : decode cX8_lives 78 = .ok (.goto (-72), 3) := by decide +kernel
theorem dX8_lives_81 : decode cX8_lives 81 = .ok (.return_, 1) := by decide +kernel
theorem dX8_reads_0 : decode cX8_reads 0 = .ok (.aload_n 0, 1) := by decide +kernel
theorem dX8_reads_1 : decode cX8_reads 1 = .ok (.invokevirtual 133, 3) := by decide +kernel
theorem dX8_reads_4 : decode cX8_reads 4 = .ok (.pop, 1) := by decide +kernel
theorem dX8_reads_5 : decode cX8_reads 5 = .ok (.aload_n 0, 1) := by decide +kernel
theorem dX8_reads_6 : decode cX8_reads 6 = .ok (.invokevirtual 137, 3) := by decide +kernel
theorem dX8_reads_9 : decode cX8_reads 9 = .ok (.pop, 1) := by decide +kernel
theorem dX8_reads_10 : decode cX8_reads 10 = .ok (.aload_n 0, 1) := by decide +kernel
theorem dX8_reads_11 : decode cX8_reads 11 = .ok (.invokevirtual 195, 3) := by decide +kernel
theorem dX8_reads_14 : decode cX8_reads 14 = .ok (.return_, 1) := by decide +kernel
theorem dX8_has_0 : decode cX8_has 0 = .ok (.aload_n 0, 1) := by decide +kernel
theorem dX8_has_1 : decode cX8_has 1 = .ok (.invokevirtual 198, 3) := by decide +kernel
theorem dX8_has_4 : decode cX8_has 4 = .ok (.iload_n 1, 1) := by decide +kernel
theorem dX8_has_5 : decode cX8_has 5 = .ok (.invokestatic 201, 3) := by decide +kernel
theorem dX8_has_8 : decode cX8_has 8 = .ok (.ifCond .eq 25, 3) := by decide +kernel
theorem dX8_has_11 : decode cX8_has 11 = .ok (.aload_n 0, 1) := by decide +kernel
theorem dX8_has_12 : decode cX8_has 12 = .ok (.iload_n 2, 1) := by decide +kernel
theorem dX8_has_13 : decode cX8_has 13 = .ok (.invokevirtual 142, 3) := by decide +kernel
theorem dX8_has_16 : decode cX8_has 16 = .ok (.ifCond .eq 17, 3) := by decide +kernel
theorem dX8_has_19 : decode cX8_has 19 = .ok (.aload_n 0, 1) := by decide +kernel
theorem dX8_has_20 : decode cX8_has 20 = .ok (.getfield 49, 3) := by decide +kernel
theorem dX8_has_23 : decode cX8_has 23 = .ok (.bipush 8, 2) := by decide +kernel
theorem dX8_has_25 : decode cX8_has 25 = .ok (.iload_n 1, 1) := by decide +kernel
theorem dX8_has_26 : decode cX8_has 26 = .ok (.imul, 1) := by decide +kernel
theorem dX8_has_27 : decode cX8_has 27 = .ok (.iload_n 2, 1) := by decide +kernel
theorem dX8_has_28 : decode cX8_has 28 = .ok (.iadd, 1) := by decide +kernel
theorem dX8_has_29 : decode cX8_has 29 = .ok (.iaload, 1) := by decide +kernel
theorem dX8_has_30 : decode cX8_has 30 = .ok (.goto 5, 3) := by decide +kernel
theorem dX8_has_33 : decode cX8_has 33 = .ok (.bipush (-2), 2) := by decide +kernel
theorem dX8_has_35 : decode cX8_has 35 = .ok (.ireturn, 1) := by decide +kernel
theorem dX8_torn_0 : decode cX8_torn 0 = .ok (.aload_n 0, 1) := by decide +kernel
theorem dX8_torn_1 : decode cX8_torn 1 = .ok (.invokevirtual 198, 3) := by decide +kernel
theorem dX8_torn_4 : decode cX8_torn 4 = .ok (.iload_n 1, 1) := by decide +kernel
theorem dX8_torn_5 : decode cX8_torn 5 = .ok (.invokestatic 201, 3) := by decide +kernel
theorem dX8_torn_8 : decode cX8_torn 8 = .ok (.ifCond .eq 25, 3) := by decide +kernel
theorem dX8_torn_11 : decode cX8_torn 11 = .ok (.aload_n 0, 1) := by decide +kernel
theorem dX8_torn_12 : decode cX8_torn 12 = .ok (.iload_n 2, 1) := by decide +kernel
theorem dX8_torn_13 : decode cX8_torn 13 = .ok (.invokevirtual 142, 3) := by decide +kernel
theorem dX8_torn_16 : decode cX8_torn 16 = .ok (.ifCond .eq 17, 3) := by decide +kernel
theorem dX8_torn_19 : decode cX8_torn 19 = .ok (.aload_n 0, 1) := by decide +kernel
theorem dX8_torn_20 : decode cX8_torn 20 = .ok (.getfield 52, 3) := by decide +kernel
theorem dX8_torn_23 : decode cX8_torn 23 = .ok (.bipush 8, 2) := by decide +kernel
theorem dX8_torn_25 : decode cX8_torn 25 = .ok (.iload_n 1, 1) := by decide +kernel
theorem dX8_torn_26 : decode cX8_torn 26 = .ok (.imul, 1) := by decide +kernel
theorem dX8_torn_27 : decode cX8_torn 27 = .ok (.iload_n 2, 1) := by decide +kernel
theorem dX8_torn_28 : decode cX8_torn 28 = .ok (.iadd, 1) := by decide +kernel
theorem dX8_torn_29 : decode cX8_torn 29 = .ok (.iaload, 1) := by decide +kernel
theorem dX8_torn_30 : decode cX8_torn 30 = .ok (.goto 5, 3) := by decide +kernel
theorem dX8_torn_33 : decode cX8_torn 33 = .ok (.bipush (-2), 2) := by decide +kernel
theorem dX8_torn_35 : decode cX8_torn 35 = .ok (.ireturn, 1) := by decide +kernel
theorem dX8_bagOf_0 : decode cX8_bagOf 0 = .ok (.iload_n 2, 1) := by decide +kernel
theorem dX8_bagOf_1 : decode cX8_bagOf 1 = .ok (.iconst (-1), 1) := by decide +kernel
theorem dX8_bagOf_2 : decode cX8_bagOf 2 = .ok (.if_icmp .ne 12, 3) := by decide +kernel
theorem dX8_bagOf_5 : decode cX8_bagOf 5 = .ok (.aload_n 0, 1) := by decide +kernel
theorem dX8_bagOf_6 : decode cX8_bagOf 6 = .ok (.getfield 55, 3) := by decide +kernel
theorem dX8_bagOf_9 : decode cX8_bagOf 9 = .ok (.iload_n 1, 1) := by decide +kernel
theorem dX8_bagOf_10 : decode cX8_bagOf 10 = .ok (.iaload, 1) := by decide +kernel
theorem dX8_bagOf_11 : decode cX8_bagOf 11 = .ok (.goto 28, 3) := by decide +kernel
theorem dX8_bagOf_14 : decode cX8_bagOf 14 = .ok (.iload_n 2, 1) := by decide +kernel
theorem dX8_bagOf_15 : decode cX8_bagOf 15 = .ok (.aload_n 0, 1) := by decide +kernel
theorem dX8_bagOf_16 : decode cX8_bagOf 16 = .ok (.getfield 55, 3) := by decide +kernel
theorem dX8_bagOf_19 : decode cX8_bagOf 19 = .ok (.iload_n 1, 1) := by decide +kernel
theorem dX8_bagOf_20 : decode cX8_bagOf 20 = .ok (.iaload, 1) := by decide +kernel
theorem dX8_bagOf_21 : decode cX8_bagOf 21 = .ok (.if_icmp .ge 17, 3) := by decide +kernel
theorem dX8_bagOf_24 : decode cX8_bagOf 24 = .ok (.aload_n 0, 1) := by decide +kernel
theorem dX8_bagOf_25 : decode cX8_bagOf 25 = .ok (.getfield 58, 3) := by decide +kernel
theorem dX8_bagOf_28 : decode cX8_bagOf 28 = .ok (.bipush 29, 2) := by decide +kernel
theorem dX8_bagOf_30 : decode cX8_bagOf 30 = .ok (.iload_n 1, 1) := by decide +kernel
theorem dX8_bagOf_31 : decode cX8_bagOf 31 = .ok (.imul, 1) := by decide +kernel
theorem dX8_bagOf_32 : decode cX8_bagOf 32 = .ok (.iload_n 2, 1) := by decide +kernel
theorem dX8_bagOf_33 : decode cX8_bagOf 33 = .ok (.iadd, 1) := by decide +kernel
theorem dX8_bagOf_34 : decode cX8_bagOf 34 = .ok (.iaload, 1) := by decide +kernel
theorem dX8_bagOf_35 : decode cX8_bagOf 35 = .ok (.goto 4, 3) := by decide +kernel
theorem dX8_bagOf_38 : decode cX8_bagOf 38 = .ok (.iconst (-1), 1) := by decide +kernel
theorem dX8_bagOf_39 : decode cX8_bagOf 39 = .ok (.ireturn, 1) := by decide +kernel
theorem dX8_bag_0 : decode cX8_bag 0 = .ok (.aload_n 0, 1) := by decide +kernel
theorem dX8_bag_1 : decode cX8_bag 1 = .ok (.invokevirtual 198, 3) := by decide +kernel
theorem dX8_bag_4 : decode cX8_bag 4 = .ok (.iload_n 1, 1) := by decide +kernel
theorem dX8_bag_5 : decode cX8_bag 5 = .ok (.invokestatic 201, 3) := by decide +kernel
theorem dX8_bag_8 : decode cX8_bag 8 = .ok (.ifCond .eq 26, 3) := by decide +kernel
theorem dX8_bag_11 : decode cX8_bag 11 = .ok (.iload_n 2, 1) := by decide +kernel
theorem dX8_bag_12 : decode cX8_bag 12 = .ok (.i2l, 1) := by decide +kernel
theorem dX8_bag_13 : decode cX8_bag 13 = .ok (.ldc2_w 204, 3) := by decide +kernel
theorem dX8_bag_16 : decode cX8_bag 16 = .ok (.ldc2_w 206, 3) := by decide +kernel
theorem dX8_bag_19 : decode cX8_bag 19 = .ok (.invokestatic 76, 3) := by decide +kernel
theorem dX8_bag_22 : decode cX8_bag 22 = .ok (.ifCond .eq 12, 3) := by decide +kernel
theorem dX8_bag_25 : decode cX8_bag 25 = .ok (.aload_n 0, 1) := by decide +kernel
theorem dX8_bag_26 : decode cX8_bag 26 = .ok (.iload_n 1, 1) := by decide +kernel
theorem dX8_bag_27 : decode cX8_bag 27 = .ok (.iload_n 2, 1) := by decide +kernel
theorem dX8_bag_28 : decode cX8_bag 28 = .ok (.invokevirtual 208, 3) := by decide +kernel
theorem dX8_bag_31 : decode cX8_bag 31 = .ok (.goto 5, 3) := by decide +kernel
theorem dX8_bag_34 : decode cX8_bag 34 = .ok (.bipush (-2), 2) := by decide +kernel
theorem dX8_bag_36 : decode cX8_bag 36 = .ok (.ireturn, 1) := by decide +kernel
theorem dX8_isServed_0 : decode cX8_isServed 0 = .ok (.aload_n 0, 1) := by decide +kernel
theorem dX8_isServed_1 : decode cX8_isServed 1 = .ok (.getfield 49, 3) := by decide +kernel
theorem dX8_isServed_4 : decode cX8_isServed 4 = .ok (.bipush 8, 2) := by decide +kernel
theorem dX8_isServed_6 : decode cX8_isServed 6 = .ok (.iload_n 1, 1) := by decide +kernel
theorem dX8_isServed_7 : decode cX8_isServed 7 = .ok (.imul, 1) := by decide +kernel
theorem dX8_isServed_8 : decode cX8_isServed 8 = .ok (.iload_n 2, 1) := by decide +kernel
theorem dX8_isServed_9 : decode cX8_isServed 9 = .ok (.iadd, 1) := by decide +kernel
theorem dX8_isServed_10 : decode cX8_isServed 10 = .ok (.iaload, 1) := by decide +kernel
theorem dX8_isServed_11 : decode cX8_isServed 11 = .ok (.aload_n 0, 1) := by decide +kernel
theorem dX8_isServed_12 : decode cX8_isServed 12 = .ok (.getfield 28, 3) := by decide +kernel
theorem dX8_isServed_15 : decode cX8_isServed 15 = .ok (.iconst 4, 1) := by decide +kernel
theorem dX8_isServed_16 : decode cX8_isServed 16 = .ok (.iload_n 2, 1) := by decide +kernel
theorem dX8_isServed_17 : decode cX8_isServed 17 = .ok (.imul, 1) := by decide +kernel
theorem dX8_isServed_18 : decode cX8_isServed 18 = .ok (.iconst 3, 1) := by decide +kernel
theorem dX8_isServed_19 : decode cX8_isServed 19 = .ok (.iadd, 1) := by decide +kernel
theorem dX8_isServed_20 : decode cX8_isServed 20 = .ok (.iaload, 1) := by decide +kernel
theorem dX8_isServed_21 : decode cX8_isServed 21 = .ok (.if_icmp .ne 7, 3) := by decide +kernel
theorem dX8_isServed_24 : decode cX8_isServed 24 = .ok (.iconst 1, 1) := by decide +kernel
theorem dX8_isServed_25 : decode cX8_isServed 25 = .ok (.goto 4, 3) := by decide +kernel
theorem dX8_isServed_28 : decode cX8_isServed 28 = .ok (.iconst 0, 1) := by decide +kernel
theorem dX8_isServed_29 : decode cX8_isServed 29 = .ok (.ireturn, 1) := by decide +kernel
theorem dX8_getsOf_0 : decode cX8_getsOf 0 = .ok (.iconst 0, 1) := by decide +kernel
theorem dX8_getsOf_1 : decode cX8_getsOf 1 = .ok (.istore_n 2, 1) := by decide +kernel
theorem dX8_getsOf_2 : decode cX8_getsOf 2 = .ok (.iload_n 2, 1) := by decide +kernel
theorem dX8_getsOf_3 : decode cX8_getsOf 3 = .ok (.bipush 10, 2) := by decide +kernel
theorem dX8_getsOf_5 : decode cX8_getsOf 5 = .ok (.if_icmp .ge 20, 3) := by decide +kernel
theorem dX8_getsOf_8 : decode cX8_getsOf 8 = .ok (.aload_n 0, 1) := by decide +kernel
theorem dX8_getsOf_9 : decode cX8_getsOf 9 = .ok (.iload_n 2, 1) := by decide +kernel
theorem dX8_getsOf_10 : decode cX8_getsOf 10 = .ok (.iload_n 1, 1) := by decide +kernel
theorem dX8_getsOf_11 : decode cX8_getsOf 11 = .ok (.invokevirtual 211, 3) := by decide +kernel
theorem dX8_getsOf_14 : decode cX8_getsOf 14 = .ok (.ifCond .eq 5, 3) := by decide +kernel
theorem dX8_getsOf_17 : decode cX8_getsOf 17 = .ok (.iload_n 2, 1) := by decide +kernel
theorem dX8_getsOf_18 : decode cX8_getsOf 18 = .ok (.ireturn, 1) := by decide +kernel
theorem dX8_getsOf_19 : decode cX8_getsOf 19 = .ok (.iinc 2 1, 3) := by decide +kernel
theorem dX8_getsOf_22 : decode cX8_getsOf 22 = .ok (.goto (-20), 3) := by decide +kernel
theorem dX8_getsOf_25 : decode cX8_getsOf 25 = .ok (.iconst (-1), 1) := by decide +kernel
theorem dX8_getsOf_26 : decode cX8_getsOf 26 = .ok (.ireturn, 1) := by decide +kernel
theorem dX8_gets_0 : decode cX8_gets 0 = .ok (.aload_n 0, 1) := by decide +kernel
theorem dX8_gets_1 : decode cX8_gets 1 = .ok (.invokevirtual 198, 3) := by decide +kernel
theorem dX8_gets_4 : decode cX8_gets 4 = .ok (.aload_n 0, 1) := by decide +kernel
theorem dX8_gets_5 : decode cX8_gets 5 = .ok (.iload_n 1, 1) := by decide +kernel
theorem dX8_gets_6 : decode cX8_gets 6 = .ok (.invokevirtual 142, 3) := by decide +kernel
theorem dX8_gets_9 : decode cX8_gets 9 = .ok (.ifCond .eq 11, 3) := by decide +kernel
theorem dX8_gets_12 : decode cX8_gets 12 = .ok (.aload_n 0, 1) := by decide +kernel
theorem dX8_gets_13 : decode cX8_gets 13 = .ok (.iload_n 1, 1) := by decide +kernel
theorem dX8_gets_14 : decode cX8_gets 14 = .ok (.invokevirtual 214, 3) := by decide +kernel
theorem dX8_gets_17 : decode cX8_gets 17 = .ok (.goto 5, 3) := by decide +kernel
theorem dX8_gets_20 : decode cX8_gets 20 = .ok (.bipush (-2), 2) := by decide +kernel
theorem dX8_gets_22 : decode cX8_gets 22 = .ok (.ireturn, 1) := by decide +kernel
theorem dX8_first_0 : decode cX8_first 0 = .ok (.aload_n 0, 1) := by decide +kernel
theorem dX8_first_1 : decode cX8_first 1 = .ok (.invokevirtual 198, 3) := by decide +kernel
theorem dX8_first_4 : decode cX8_first 4 = .ok (.iload_n 1, 1) := by decide +kernel
theorem dX8_first_5 : decode cX8_first 5 = .ok (.i2l, 1) := by decide +kernel
theorem dX8_first_6 : decode cX8_first 6 = .ok (.lconst 0, 1) := by decide +kernel
theorem dX8_first_7 : decode cX8_first 7 = .ok (.ldc2_w 89, 3) := by decide +kernel
theorem dX8_first_10 : decode cX8_first 10 = .ok (.invokestatic 76, 3) := by decide +kernel
theorem dX8_first_13 : decode cX8_first 13 = .ok (.ifCond .eq 12, 3) := by decide +kernel
theorem dX8_first_16 : decode cX8_first 16 = .ok (.aload_n 0, 1) := by decide +kernel
theorem dX8_first_17 : decode cX8_first 17 = .ok (.getfield 61, 3) := by decide +kernel
theorem dX8_first_20 : decode cX8_first 20 = .ok (.iload_n 1, 1) := by decide +kernel
theorem dX8_first_21 : decode cX8_first 21 = .ok (.iaload, 1) := by decide +kernel
theorem dX8_first_22 : decode cX8_first 22 = .ok (.goto 5, 3) := by decide +kernel
theorem dX8_first_25 : decode cX8_first 25 = .ok (.bipush (-2), 2) := by decide +kernel
theorem dX8_first_27 : decode cX8_first 27 = .ok (.ireturn, 1) := by decide +kernel
theorem dX8_still_0 : decode cX8_still 0 = .ok (.aload_n 0, 1) := by decide +kernel
theorem dX8_still_1 : decode cX8_still 1 = .ok (.invokevirtual 198, 3) := by decide +kernel
theorem dX8_still_4 : decode cX8_still 4 = .ok (.aload_n 0, 1) := by decide +kernel
theorem dX8_still_5 : decode cX8_still 5 = .ok (.getfield 183, 3) := by decide +kernel
theorem dX8_still_8 : decode cX8_still 8 = .ok (.ireturn, 1) := by decide +kernel
theorem dX8_servedBy_0 : decode cX8_servedBy 0 = .ok (.iconst 0, 1) := by decide +kernel
theorem dX8_servedBy_1 : decode cX8_servedBy 1 = .ok (.istore_n 2, 1) := by decide +kernel
theorem dX8_servedBy_2 : decode cX8_servedBy 2 = .ok (.iconst 0, 1) := by decide +kernel
theorem dX8_servedBy_3 : decode cX8_servedBy 3 = .ok (.istore_n 3, 1) := by decide +kernel
theorem dX8_servedBy_4 : decode cX8_servedBy 4 = .ok (.iload_n 3, 1) := by decide +kernel
theorem dX8_servedBy_5 : decode cX8_servedBy 5 = .ok (.aload_n 0, 1) := by decide +kernel
theorem dX8_servedBy_6 : decode cX8_servedBy 6 = .ok (.getfield 120, 3) := by decide +kernel
theorem dX8_servedBy_9 : decode cX8_servedBy 9 = .ok (.if_icmp .ge 28, 3) := by decide +kernel
theorem dX8_servedBy_12 : decode cX8_servedBy 12 = .ok (.iload_n 2, 1) := by decide +kernel
theorem dX8_servedBy_13 : decode cX8_servedBy 13 = .ok (.aload_n 0, 1) := by decide +kernel
theorem dX8_servedBy_14 : decode cX8_servedBy 14 = .ok (.iload_n 1, 1) := by decide +kernel
theorem dX8_servedBy_15 : decode cX8_servedBy 15 = .ok (.iload_n 3, 1) := by decide +kernel
theorem dX8_servedBy_16 : decode cX8_servedBy 16 = .ok (.invokevirtual 211, 3) := by decide +kernel
theorem dX8_servedBy_19 : decode cX8_servedBy 19 = .ok (.ifCond .eq 9, 3) := by decide +kernel
theorem dX8_servedBy_22 : decode cX8_servedBy 22 = .ok (.iconst 1, 1) := by decide +kernel
theorem dX8_servedBy_23 : decode cX8_servedBy 23 = .ok (.iload_n 3, 1) := by decide +kernel
theorem dX8_servedBy_24 : decode cX8_servedBy 24 = .ok (.ishl, 1) := by decide +kernel
theorem dX8_servedBy_25 : decode cX8_servedBy 25 = .ok (.goto 4, 3) := by decide +kernel
theorem dX8_servedBy_28 : decode cX8_servedBy 28 = .ok (.iconst 0, 1) := by decide +kernel
theorem dX8_servedBy_29 : decode cX8_servedBy 29 = .ok (.ior, 1) := by decide +kernel
theorem dX8_servedBy_30 : decode cX8_servedBy 30 = .ok (.istore_n 2, 1) := by decide +kernel
theorem dX8_servedBy_31 : decode cX8_servedBy 31 = .ok (.iinc 3 1, 3) := by decide +kernel
theorem dX8_servedBy_34 : decode cX8_servedBy 34 = .ok (.goto (-30), 3) := by decide +kernel
theorem dX8_servedBy_37 : decode cX8_servedBy 37 = .ok (.iload_n 2, 1) := by decide +kernel
theorem dX8_servedBy_38 : decode cX8_servedBy 38 = .ok (.ireturn, 1) := by decide +kernel
theorem dX8_served_0 : decode cX8_served 0 = .ok (.aload_n 0, 1) := by decide +kernel
theorem dX8_served_1 : decode cX8_served 1 = .ok (.invokevirtual 198, 3) := by decide +kernel
theorem dX8_served_4 : decode cX8_served 4 = .ok (.iload_n 1, 1) := by decide +kernel
theorem dX8_served_5 : decode cX8_served 5 = .ok (.invokestatic 201, 3) := by decide +kernel
theorem dX8_served_8 : decode cX8_served 8 = .ok (.ifCond .eq 11, 3) := by decide +kernel
theorem dX8_served_11 : decode cX8_served 11 = .ok (.aload_n 0, 1) := by decide +kernel
theorem dX8_served_12 : decode cX8_served 12 = .ok (.iload_n 1, 1) := by decide +kernel
theorem dX8_served_13 : decode cX8_served 13 = .ok (.invokevirtual 217, 3) := by decide +kernel
theorem dX8_served_16 : decode cX8_served 16 = .ok (.goto 5, 3) := by decide +kernel
theorem dX8_served_19 : decode cX8_served 19 = .ok (.bipush (-2), 2) := by decide +kernel
theorem dX8_served_21 : decode cX8_served 21 = .ok (.ireturn, 1) := by decide +kernel
theorem dX8_wantsOf_0 : decode cX8_wantsOf 0 = .ok (.aload_n 0, 1) := by decide +kernel
theorem dX8_wantsOf_1 : decode cX8_wantsOf 1 = .ok (.getfield 28, 3) := by decide +kernel
theorem dX8_wantsOf_4 : decode cX8_wantsOf 4 = .ok (.iconst 4, 1) := by decide +kernel
theorem dX8_wantsOf_5 : decode cX8_wantsOf 5 = .ok (.iload_n 1, 1) := by decide +kernel
theorem dX8_wantsOf_6 : decode cX8_wantsOf 6 = .ok (.imul, 1) := by decide +kernel
theorem dX8_wantsOf_7 : decode cX8_wantsOf 7 = .ok (.iconst 3, 1) := by decide +kernel
theorem dX8_wantsOf_8 : decode cX8_wantsOf 8 = .ok (.iadd, 1) := by decide +kernel
theorem dX8_wantsOf_9 : decode cX8_wantsOf 9 = .ok (.iaload, 1) := by decide +kernel
theorem dX8_wantsOf_10 : decode cX8_wantsOf 10 = .ok (.aload_n 0, 1) := by decide +kernel
theorem dX8_wantsOf_11 : decode cX8_wantsOf 11 = .ok (.getfield 28, 3) := by decide +kernel
theorem dX8_wantsOf_14 : decode cX8_wantsOf 14 = .ok (.iconst 4, 1) := by decide +kernel
theorem dX8_wantsOf_15 : decode cX8_wantsOf 15 = .ok (.iload_n 2, 1) := by decide +kernel
theorem dX8_wantsOf_16 : decode cX8_wantsOf 16 = .ok (.imul, 1) := by decide +kernel
theorem dX8_wantsOf_17 : decode cX8_wantsOf 17 = .ok (.iaload, 1) := by decide +kernel
theorem dX8_wantsOf_18 : decode cX8_wantsOf 18 = .ok (.if_icmp .ne 28, 3) := by decide +kernel
theorem dX8_wantsOf_21 : decode cX8_wantsOf 21 = .ok (.aload_n 0, 1) := by decide +kernel
theorem dX8_wantsOf_22 : decode cX8_wantsOf 22 = .ok (.getfield 28, 3) := by decide +kernel
theorem dX8_wantsOf_25 : decode cX8_wantsOf 25 = .ok (.iconst 4, 1) := by decide +kernel
theorem dX8_wantsOf_26 : decode cX8_wantsOf 26 = .ok (.iload_n 1, 1) := by decide +kernel
theorem dX8_wantsOf_27 : decode cX8_wantsOf 27 = .ok (.imul, 1) := by decide +kernel
theorem dX8_wantsOf_28 : decode cX8_wantsOf 28 = .ok (.iconst 3, 1) := by decide +kernel
theorem dX8_wantsOf_29 : decode cX8_wantsOf 29 = .ok (.iadd, 1) := by decide +kernel
theorem dX8_wantsOf_30 : decode cX8_wantsOf 30 = .ok (.iaload, 1) := by decide +kernel
theorem dX8_wantsOf_31 : decode cX8_wantsOf 31 = .ok (.aload_n 0, 1) := by decide +kernel
theorem dX8_wantsOf_32 : decode cX8_wantsOf 32 = .ok (.getfield 28, 3) := by decide +kernel
theorem dX8_wantsOf_35 : decode cX8_wantsOf 35 = .ok (.iconst 4, 1) := by decide +kernel
theorem dX8_wantsOf_36 : decode cX8_wantsOf 36 = .ok (.iload_n 1, 1) := by decide +kernel
theorem dX8_wantsOf_37 : decode cX8_wantsOf 37 = .ok (.imul, 1) := by decide +kernel
theorem dX8_wantsOf_38 : decode cX8_wantsOf 38 = .ok (.iaload, 1) := by decide +kernel
theorem dX8_wantsOf_39 : decode cX8_wantsOf 39 = .ok (.if_icmp .eq 7, 3) := by decide +kernel
theorem dX8_wantsOf_42 : decode cX8_wantsOf 42 = .ok (.iconst 1, 1) := by decide +kernel
theorem dX8_wantsOf_43 : decode cX8_wantsOf 43 = .ok (.goto 4, 3) := by decide +kernel
theorem dX8_wantsOf_46 : decode cX8_wantsOf 46 = .ok (.iconst 0, 1) := by decide +kernel
theorem dX8_wantsOf_47 : decode cX8_wantsOf 47 = .ok (.ireturn, 1) := by decide +kernel
theorem dX8_isRing_0 : decode cX8_isRing 0 = .ok (.aload_n 0, 1) := by decide +kernel
theorem dX8_isRing_1 : decode cX8_isRing 1 = .ok (.iload_n 1, 1) := by decide +kernel
theorem dX8_isRing_2 : decode cX8_isRing 2 = .ok (.iload_n 2, 1) := by decide +kernel
theorem dX8_isRing_3 : decode cX8_isRing 3 = .ok (.invokevirtual 220, 3) := by decide +kernel
theorem dX8_isRing_6 : decode cX8_isRing 6 = .ok (.ifCond .eq 21, 3) := by decide +kernel
theorem dX8_isRing_9 : decode cX8_isRing 9 = .ok (.aload_n 0, 1) := by decide +kernel
theorem dX8_isRing_10 : decode cX8_isRing 10 = .ok (.iload_n 2, 1) := by decide +kernel
theorem dX8_isRing_11 : decode cX8_isRing 11 = .ok (.iload_n 3, 1) := by decide +kernel
theorem dX8_isRing_12 : decode cX8_isRing 12 = .ok (.invokevirtual 220, 3) := by decide +kernel
theorem dX8_isRing_15 : decode cX8_isRing 15 = .ok (.ifCond .eq 12, 3) := by decide +kernel
theorem dX8_isRing_18 : decode cX8_isRing 18 = .ok (.aload_n 0, 1) := by decide +kernel
theorem dX8_isRing_19 : decode cX8_isRing 19 = .ok (.iload_n 3, 1) := by decide +kernel
theorem dX8_isRing_20 : decode cX8_isRing 20 = .ok (.iload_n 1, 1) := by decide +kernel
theorem dX8_isRing_21 : decode cX8_isRing 21 = .ok (.invokevirtual 220, 3) := by decide +kernel
theorem dX8_isRing_24 : decode cX8_isRing 24 = .ok (.ifCond .ne 30, 3) := by decide +kernel
theorem dX8_isRing_27 : decode cX8_isRing 27 = .ok (.aload_n 0, 1) := by decide +kernel
theorem dX8_isRing_28 : decode cX8_isRing 28 = .ok (.iload_n 1, 1) := by decide +kernel
theorem dX8_isRing_29 : decode cX8_isRing 29 = .ok (.iload_n 3, 1) := by decide +kernel
theorem dX8_isRing_30 : decode cX8_isRing 30 = .ok (.invokevirtual 220, 3) := by decide +kernel
theorem dX8_isRing_33 : decode cX8_isRing 33 = .ok (.ifCond .eq 25, 3) := by decide +kernel
theorem dX8_isRing_36 : decode cX8_isRing 36 = .ok (.aload_n 0, 1) := by decide +kernel
theorem dX8_isRing_37 : decode cX8_isRing 37 = .ok (.iload_n 3, 1) := by decide +kernel
theorem dX8_isRing_38 : decode cX8_isRing 38 = .ok (.iload_n 2, 1) := by decide +kernel
theorem dX8_isRing_39 : decode cX8_isRing 39 = .ok (.invokevirtual 220, 3) := by decide +kernel
theorem dX8_isRing_42 : decode cX8_isRing 42 = .ok (.ifCond .eq 16, 3) := by decide +kernel
theorem dX8_isRing_45 : decode cX8_isRing 45 = .ok (.aload_n 0, 1) := by decide +kernel
theorem dX8_isRing_46 : decode cX8_isRing 46 = .ok (.iload_n 2, 1) := by decide +kernel
theorem dX8_isRing_47 : decode cX8_isRing 47 = .ok (.iload_n 1, 1) := by decide +kernel
theorem dX8_isRing_48 : decode cX8_isRing 48 = .ok (.invokevirtual 220, 3) := by decide +kernel
theorem dX8_isRing_51 : decode cX8_isRing 51 = .ok (.ifCond .eq 7, 3) := by decide +kernel
theorem dX8_isRing_54 : decode cX8_isRing 54 = .ok (.iconst 1, 1) := by decide +kernel
theorem dX8_isRing_55 : decode cX8_isRing 55 = .ok (.goto 4, 3) := by decide +kernel
theorem dX8_isRing_58 : decode cX8_isRing 58 = .ok (.iconst 0, 1) := by decide +kernel
theorem dX8_isRing_59 : decode cX8_isRing 59 = .ok (.ireturn, 1) := by decide +kernel
theorem dX8_ringsNow_0 : decode cX8_ringsNow 0 = .ok (.iconst 0, 1) := by decide +kernel
theorem dX8_ringsNow_1 : decode cX8_ringsNow 1 = .ok (.istore_n 2, 1) := by decide +kernel
theorem dX8_ringsNow_2 : decode cX8_ringsNow 2 = .ok (.iconst (-1), 1) := by decide +kernel
theorem dX8_ringsNow_3 : decode cX8_ringsNow 3 = .ok (.istore_n 3, 1) := by decide +kernel
theorem dX8_ringsNow_4 : decode cX8_ringsNow 4 = .ok (.iconst 0, 1) := by decide +kernel
theorem dX8_ringsNow_5 : decode cX8_ringsNow 5 = .ok (.istore 4, 2) := by decide +kernel
theorem dX8_ringsNow_7 : decode cX8_ringsNow 7 = .ok (.iload 4, 2) := by decide +kernel
theorem dX8_ringsNow_9 : decode cX8_ringsNow 9 = .ok (.sipush 512, 3) := by decide +kernel
theorem dX8_ringsNow_12 : decode cX8_ringsNow 12 = .ok (.if_icmp .ge 83, 3) := by decide +kernel
theorem dX8_ringsNow_15 : decode cX8_ringsNow 15 = .ok (.iload 4, 2) := by decide +kernel
theorem dX8_ringsNow_17 : decode cX8_ringsNow 17 = .ok (.bipush 64, 2) := by decide +kernel
theorem dX8_ringsNow_19 : decode cX8_ringsNow 19 = .ok (.idiv, 1) := by decide +kernel
theorem dX8_ringsNow_20 : decode cX8_ringsNow 20 = .ok (.istore 5, 2) := by decide +kernel
theorem dX8_ringsNow_22 : decode cX8_ringsNow 22 = .ok (.iload 4, 2) := by decide +kernel
theorem dX8_ringsNow_24 : decode cX8_ringsNow 24 = .ok (.bipush 8, 2) := by decide +kernel
theorem dX8_ringsNow_26 : decode cX8_ringsNow 26 = .ok (.idiv, 1) := by decide +kernel
theorem dX8_ringsNow_27 : decode cX8_ringsNow 27 = .ok (.bipush 8, 2) := by decide +kernel
theorem dX8_ringsNow_29 : decode cX8_ringsNow 29 = .ok (.irem, 1) := by decide +kernel
theorem dX8_ringsNow_30 : decode cX8_ringsNow 30 = .ok (.istore 6, 2) := by decide +kernel
theorem dX8_ringsNow_32 : decode cX8_ringsNow 32 = .ok (.iload 4, 2) := by decide +kernel
theorem dX8_ringsNow_34 : decode cX8_ringsNow 34 = .ok (.bipush 8, 2) := by decide +kernel
theorem dX8_ringsNow_36 : decode cX8_ringsNow 36 = .ok (.irem, 1) := by decide +kernel
theorem dX8_ringsNow_37 : decode cX8_ringsNow 37 = .ok (.istore 7, 2) := by decide +kernel
theorem dX8_ringsNow_39 : decode cX8_ringsNow 39 = .ok (.iload 5, 2) := by decide +kernel
theorem dX8_ringsNow_41 : decode cX8_ringsNow 41 = .ok (.iload 6, 2) := by decide +kernel
theorem dX8_ringsNow_43 : decode cX8_ringsNow 43 = .ok (.if_icmp .ge 46, 3) := by decide +kernel
theorem dX8_ringsNow_46 : decode cX8_ringsNow 46 = .ok (.iload 6, 2) := by decide +kernel
theorem dX8_ringsNow_48 : decode cX8_ringsNow 48 = .ok (.iload 7, 2) := by decide +kernel
theorem dX8_ringsNow_50 : decode cX8_ringsNow 50 = .ok (.if_icmp .ge 39, 3) := by decide +kernel
theorem dX8_ringsNow_53 : decode cX8_ringsNow 53 = .ok (.iload 7, 2) := by decide +kernel
theorem dX8_ringsNow_55 : decode cX8_ringsNow 55 = .ok (.aload_n 0, 1) := by decide +kernel
theorem dX8_ringsNow_56 : decode cX8_ringsNow 56 = .ok (.getfield 120, 3) := by decide +kernel
theorem dX8_ringsNow_59 : decode cX8_ringsNow 59 = .ok (.if_icmp .ge 30, 3) := by decide +kernel
theorem dX8_ringsNow_62 : decode cX8_ringsNow 62 = .ok (.aload_n 0, 1) := by decide +kernel
theorem dX8_ringsNow_63 : decode cX8_ringsNow 63 = .ok (.iload 5, 2) := by decide +kernel
theorem dX8_ringsNow_65 : decode cX8_ringsNow 65 = .ok (.iload 6, 2) := by decide +kernel
theorem dX8_ringsNow_67 : decode cX8_ringsNow 67 = .ok (.iload 7, 2) := by decide +kernel
theorem dX8_ringsNow_69 : decode cX8_ringsNow 69 = .ok (.invokevirtual 223, 3) := by decide +kernel
theorem dX8_ringsNow_72 : decode cX8_ringsNow 72 = .ok (.ifCond .eq 17, 3) := by decide +kernel
theorem dX8_ringsNow_75 : decode cX8_ringsNow 75 = .ok (.iload_n 2, 1) := by decide +kernel
theorem dX8_ringsNow_76 : decode cX8_ringsNow 76 = .ok (.ifCond .ne 8, 3) := by decide +kernel
theorem dX8_ringsNow_79 : decode cX8_ringsNow 79 = .ok (.iload 4, 2) := by decide +kernel
theorem dX8_ringsNow_81 : decode cX8_ringsNow 81 = .ok (.goto 4, 3) := by decide +kernel
theorem dX8_ringsNow_84 : decode cX8_ringsNow 84 = .ok (.iload_n 3, 1) := by decide +kernel
theorem dX8_ringsNow_85 : decode cX8_ringsNow 85 = .ok (.istore_n 3, 1) := by decide +kernel
theorem dX8_ringsNow_86 : decode cX8_ringsNow 86 = .ok (.iinc 2 1, 3) := by decide +kernel
theorem dX8_ringsNow_89 : decode cX8_ringsNow 89 = .ok (.iinc 4 1, 3) := by decide +kernel
theorem dX8_ringsNow_92 : decode cX8_ringsNow 92 = .ok (.goto (-85), 3) := by decide +kernel
theorem dX8_ringsNow_95 : decode cX8_ringsNow 95 = .ok (.iload_n 1, 1) := by decide +kernel
theorem dX8_ringsNow_96 : decode cX8_ringsNow 96 = .ok (.ifCond .ne 7, 3) := by decide +kernel
theorem dX8_ringsNow_99 : decode cX8_ringsNow 99 = .ok (.iload_n 2, 1) := by decide +kernel
theorem dX8_ringsNow_100 : decode cX8_ringsNow 100 = .ok (.goto 4, 3) := by decide +kernel
theorem dX8_ringsNow_103 : decode cX8_ringsNow 103 = .ok (.iload_n 3, 1) := by decide +kernel
theorem dX8_ringsNow_104 : decode cX8_ringsNow 104 = .ok (.ireturn, 1) := by decide +kernel
theorem dX8_rings_0 : decode cX8_rings 0 = .ok (.aload_n 0, 1) := by decide +kernel
theorem dX8_rings_1 : decode cX8_rings 1 = .ok (.invokevirtual 198, 3) := by decide +kernel
theorem dX8_rings_4 : decode cX8_rings 4 = .ok (.iload_n 1, 1) := by decide +kernel
theorem dX8_rings_5 : decode cX8_rings 5 = .ok (.invokestatic 104, 3) := by decide +kernel
theorem dX8_rings_8 : decode cX8_rings 8 = .ok (.ifCond .eq 11, 3) := by decide +kernel
theorem dX8_rings_11 : decode cX8_rings 11 = .ok (.aload_n 0, 1) := by decide +kernel
theorem dX8_rings_12 : decode cX8_rings 12 = .ok (.iload_n 1, 1) := by decide +kernel
theorem dX8_rings_13 : decode cX8_rings 13 = .ok (.invokevirtual 227, 3) := by decide +kernel
theorem dX8_rings_16 : decode cX8_rings 16 = .ok (.goto 5, 3) := by decide +kernel
theorem dX8_rings_19 : decode cX8_rings 19 = .ok (.bipush (-2), 2) := by decide +kernel
theorem dX8_rings_21 : decode cX8_rings 21 = .ok (.ireturn, 1) := by decide +kernel
theorem dX8_openOf_0 : decode cX8_openOf 0 = .ok (.aload_n 0, 1) := by decide +kernel
theorem dX8_openOf_1 : decode cX8_openOf 1 = .ok (.getfield 37, 3) := by decide +kernel
theorem dX8_openOf_4 : decode cX8_openOf 4 = .ok (.iconst 1, 1) := by decide +kernel
theorem dX8_openOf_5 : decode cX8_openOf 5 = .ok (.iaload, 1) := by decide +kernel
theorem dX8_openOf_6 : decode cX8_openOf 6 = .ok (.istore_n 3, 1) := by decide +kernel
theorem dX8_openOf_7 : decode cX8_openOf 7 = .ok (.iconst (-1), 1) := by decide +kernel
theorem dX8_openOf_8 : decode cX8_openOf 8 = .ok (.istore 4, 2) := by decide +kernel
theorem dX8_openOf_10 : decode cX8_openOf 10 = .ok (.iconst 4, 1) := by decide +kernel
theorem dX8_openOf_11 : decode cX8_openOf 11 = .ok (.istore 5, 2) := by decide +kernel
theorem dX8_openOf_13 : decode cX8_openOf 13 = .ok (.iconst 0, 1) := by decide +kernel
theorem dX8_openOf_14 : decode cX8_openOf 14 = .ok (.istore 6, 2) := by decide +kernel
theorem dX8_openOf_16 : decode cX8_openOf 16 = .ok (.iload 6, 2) := by decide +kernel
theorem dX8_openOf_18 : decode cX8_openOf 18 = .ok (.sipush 1024, 3) := by decide +kernel
theorem dX8_openOf_21 : decode cX8_openOf 21 = .ok (.if_icmp .ge 71, 3) := by decide +kernel
theorem dX8_openOf_24 : decode cX8_openOf 24 = .ok (.iload 6, 2) := by decide +kernel
theorem dX8_openOf_26 : decode cX8_openOf 26 = .ok (.invokestatic 230, 3) := by decide +kernel
theorem dX8_openOf_29 : decode cX8_openOf 29 = .ok (.iload 5, 2) := by decide +kernel
theorem dX8_openOf_31 : decode cX8_openOf 31 = .ok (.if_icmp .ge 55, 3) := by decide +kernel
theorem dX8_openOf_34 : decode cX8_openOf 34 = .ok (.aload_n 0, 1) := by decide +kernel
theorem dX8_openOf_35 : decode cX8_openOf 35 = .ok (.getfield 37, 3) := by decide +kernel
theorem dX8_openOf_38 : decode cX8_openOf 38 = .ok (.iconst 1, 1) := by decide +kernel
theorem dX8_openOf_39 : decode cX8_openOf 39 = .ok (.iload 6, 2) := by decide +kernel
theorem dX8_openOf_41 : decode cX8_openOf 41 = .ok (.iastore, 1) := by decide +kernel
theorem dX8_openOf_42 : decode cX8_openOf 42 = .ok (.aload_n 0, 1) := by decide +kernel
theorem dX8_openOf_43 : decode cX8_openOf 43 = .ok (.invokevirtual 195, 3) := by decide +kernel
theorem dX8_openOf_46 : decode cX8_openOf 46 = .ok (.aload_n 0, 1) := by decide +kernel
theorem dX8_openOf_47 : decode cX8_openOf 47 = .ok (.bipush 9, 2) := by decide +kernel
theorem dX8_openOf_49 : decode cX8_openOf 49 = .ok (.iload_n 1, 1) := by decide +kernel
theorem dX8_openOf_50 : decode cX8_openOf 50 = .ok (.invokevirtual 211, 3) := by decide +kernel
theorem dX8_openOf_53 : decode cX8_openOf 53 = .ok (.istore 7, 2) := by decide +kernel
theorem dX8_openOf_55 : decode cX8_openOf 55 = .ok (.iload 7, 2) := by decide +kernel
theorem dX8_openOf_57 : decode cX8_openOf 57 = .ok (.ifCond .eq 8, 3) := by decide +kernel
theorem dX8_openOf_60 : decode cX8_openOf 60 = .ok (.iload 6, 2) := by decide +kernel
theorem dX8_openOf_62 : decode cX8_openOf 62 = .ok (.goto 5, 3) := by decide +kernel
theorem dX8_openOf_65 : decode cX8_openOf 65 = .ok (.iload 4, 2) := by decide +kernel
theorem dX8_openOf_67 : decode cX8_openOf 67 = .ok (.istore 4, 2) := by decide +kernel
theorem dX8_openOf_69 : decode cX8_openOf 69 = .ok (.iload 7, 2) := by decide +kernel
theorem dX8_openOf_71 : decode cX8_openOf 71 = .ok (.ifCond .eq 11, 3) := by decide +kernel
theorem dX8_openOf_74 : decode cX8_openOf 74 = .ok (.iload 6, 2) := by decide +kernel
theorem dX8_openOf_76 : decode cX8_openOf 76 = .ok (.invokestatic 230, 3) := by decide +kernel
theorem dX8_openOf_79 : decode cX8_openOf 79 = .ok (.goto 5, 3) := by decide +kernel
theorem dX8_openOf_82 : decode cX8_openOf 82 = .ok (.iload 5, 2) := by decide +kernel
theorem dX8_openOf_84 : decode cX8_openOf 84 = .ok (.istore 5, 2) := by decide +kernel
theorem dX8_openOf_86 : decode cX8_openOf 86 = .ok (.iinc 6 1, 3) := by decide +kernel
theorem dX8_openOf_89 : decode cX8_openOf 89 = .ok (.goto (-73), 3) := by decide +kernel
theorem dX8_openOf_92 : decode cX8_openOf 92 = .ok (.aload_n 0, 1) := by decide +kernel
theorem dX8_openOf_93 : decode cX8_openOf 93 = .ok (.getfield 37, 3) := by decide +kernel
theorem dX8_openOf_96 : decode cX8_openOf 96 = .ok (.iconst 1, 1) := by decide +kernel
theorem dX8_openOf_97 : decode cX8_openOf 97 = .ok (.iload_n 3, 1) := by decide +kernel
theorem dX8_openOf_98 : decode cX8_openOf 98 = .ok (.iastore, 1) := by decide +kernel
theorem dX8_openOf_99 : decode cX8_openOf 99 = .ok (.iload 4, 2) := by decide +kernel
theorem dX8_openOf_101 : decode cX8_openOf 101 = .ok (.iconst (-1), 1) := by decide +kernel
theorem dX8_openOf_102 : decode cX8_openOf 102 = .ok (.if_icmp .eq 8, 3) := by decide +kernel
theorem dX8_openOf_105 : decode cX8_openOf 105 = .ok (.iload_n 2, 1) := by decide +kernel
theorem dX8_openOf_106 : decode cX8_openOf 106 = .ok (.iconst 1, 1) := by decide +kernel
theorem dX8_openOf_107 : decode cX8_openOf 107 = .ok (.if_icmp .ne 8, 3) := by decide +kernel
theorem dX8_openOf_110 : decode cX8_openOf 110 = .ok (.iload 4, 2) := by decide +kernel
theorem dX8_openOf_112 : decode cX8_openOf 112 = .ok (.goto 5, 3) := by decide +kernel
theorem dX8_openOf_115 : decode cX8_openOf 115 = .ok (.iload 5, 2) := by decide +kernel
theorem dX8_openOf_117 : decode cX8_openOf 117 = .ok (.ireturn, 1) := by decide +kernel
theorem dX8_open_0 : decode cX8_open 0 = .ok (.aload_n 0, 1) := by decide +kernel
theorem dX8_open_1 : decode cX8_open 1 = .ok (.invokevirtual 198, 3) := by decide +kernel
theorem dX8_open_4 : decode cX8_open 4 = .ok (.aload_n 0, 1) := by decide +kernel
theorem dX8_open_5 : decode cX8_open 5 = .ok (.iload_n 1, 1) := by decide +kernel
theorem dX8_open_6 : decode cX8_open 6 = .ok (.invokevirtual 142, 3) := by decide +kernel
theorem dX8_open_9 : decode cX8_open 9 = .ok (.ifCond .eq 19, 3) := by decide +kernel
theorem dX8_open_12 : decode cX8_open 12 = .ok (.iload_n 2, 1) := by decide +kernel
theorem dX8_open_13 : decode cX8_open 13 = .ok (.invokestatic 104, 3) := by decide +kernel
theorem dX8_open_16 : decode cX8_open 16 = .ok (.ifCond .eq 12, 3) := by decide +kernel
theorem dX8_open_19 : decode cX8_open 19 = .ok (.aload_n 0, 1) := by decide +kernel
theorem dX8_open_20 : decode cX8_open 20 = .ok (.iload_n 1, 1) := by decide +kernel
theorem dX8_open_21 : decode cX8_open 21 = .ok (.iload_n 2, 1) := by decide +kernel
theorem dX8_open_22 : decode cX8_open 22 = .ok (.invokevirtual 233, 3) := by decide +kernel
theorem dX8_open_25 : decode cX8_open 25 = .ok (.goto 5, 3) := by decide +kernel
theorem dX8_open_28 : decode cX8_open 28 = .ok (.bipush (-2), 2) := by decide +kernel
theorem dX8_open_30 : decode cX8_open 30 = .ok (.ireturn, 1) := by decide +kernel
theorem dX8_leastOf_0 : decode cX8_leastOf 0 = .ok (.aload_n 0, 1) := by decide +kernel
theorem dX8_leastOf_1 : decode cX8_leastOf 1 = .ok (.getfield 37, 3) := by decide +kernel
theorem dX8_leastOf_4 : decode cX8_leastOf 4 = .ok (.iconst 0, 1) := by decide +kernel
theorem dX8_leastOf_5 : decode cX8_leastOf 5 = .ok (.iaload, 1) := by decide +kernel
theorem dX8_leastOf_6 : decode cX8_leastOf 6 = .ok (.istore_n 2, 1) := by decide +kernel
theorem dX8_leastOf_7 : decode cX8_leastOf 7 = .ok (.iconst (-1), 1) := by decide +kernel
theorem dX8_leastOf_8 : decode cX8_leastOf 8 = .ok (.istore_n 3, 1) := by decide +kernel
theorem dX8_leastOf_9 : decode cX8_leastOf 9 = .ok (.iconst (-1), 1) := by decide +kernel
theorem dX8_leastOf_10 : decode cX8_leastOf 10 = .ok (.istore 4, 2) := by decide +kernel
theorem dX8_leastOf_12 : decode cX8_leastOf 12 = .ok (.iconst 0, 1) := by decide +kernel
theorem dX8_leastOf_13 : decode cX8_leastOf 13 = .ok (.istore 5, 2) := by decide +kernel
theorem dX8_leastOf_15 : decode cX8_leastOf 15 = .ok (.iload 5, 2) := by decide +kernel
theorem dX8_leastOf_17 : decode cX8_leastOf 17 = .ok (.bipush 10, 2) := by decide +kernel
theorem dX8_leastOf_19 : decode cX8_leastOf 19 = .ok (.if_icmp .ge 55, 3) := by decide +kernel
theorem dX8_leastOf_22 : decode cX8_leastOf 22 = .ok (.aload_n 0, 1) := by decide +kernel
theorem dX8_leastOf_23 : decode cX8_leastOf 23 = .ok (.getfield 37, 3) := by decide +kernel
theorem dX8_leastOf_26 : decode cX8_leastOf 26 = .ok (.iconst 0, 1) := by decide +kernel
theorem dX8_leastOf_27 : decode cX8_leastOf 27 = .ok (.iload 5, 2) := by decide +kernel
theorem dX8_leastOf_29 : decode cX8_leastOf 29 = .ok (.iastore, 1) := by decide +kernel
theorem dX8_leastOf_30 : decode cX8_leastOf 30 = .ok (.aload_n 0, 1) := by decide +kernel
theorem dX8_leastOf_31 : decode cX8_leastOf 31 = .ok (.invokevirtual 195, 3) := by decide +kernel
theorem dX8_leastOf_34 : decode cX8_leastOf 34 = .ok (.aload_n 0, 1) := by decide +kernel
theorem dX8_leastOf_35 : decode cX8_leastOf 35 = .ok (.bipush 9, 2) := by decide +kernel
theorem dX8_leastOf_37 : decode cX8_leastOf 37 = .ok (.invokevirtual 217, 3) := by decide +kernel
theorem dX8_leastOf_40 : decode cX8_leastOf 40 = .ok (.invokestatic 230, 3) := by decide +kernel
theorem dX8_leastOf_43 : decode cX8_leastOf 43 = .ok (.istore 6, 2) := by decide +kernel
theorem dX8_leastOf_45 : decode cX8_leastOf 45 = .ok (.iload 6, 2) := by decide +kernel
theorem dX8_leastOf_47 : decode cX8_leastOf 47 = .ok (.iload 4, 2) := by decide +kernel
theorem dX8_leastOf_49 : decode cX8_leastOf 49 = .ok (.if_icmp .le 8, 3) := by decide +kernel
theorem dX8_leastOf_52 : decode cX8_leastOf 52 = .ok (.iload 5, 2) := by decide +kernel
theorem dX8_leastOf_54 : decode cX8_leastOf 54 = .ok (.goto 4, 3) := by decide +kernel
theorem dX8_leastOf_57 : decode cX8_leastOf 57 = .ok (.iload_n 3, 1) := by decide +kernel
theorem dX8_leastOf_58 : decode cX8_leastOf 58 = .ok (.istore_n 3, 1) := by decide +kernel
theorem dX8_leastOf_59 : decode cX8_leastOf 59 = .ok (.iload 6, 2) := by decide +kernel
theorem dX8_leastOf_61 : decode cX8_leastOf 61 = .ok (.iload 4, 2) := by decide +kernel
theorem dX8_leastOf_63 : decode cX8_leastOf 63 = .ok (.invokestatic 236, 3) := by decide +kernel
theorem dX8_leastOf_66 : decode cX8_leastOf 66 = .ok (.istore 4, 2) := by decide +kernel
theorem dX8_leastOf_68 : decode cX8_leastOf 68 = .ok (.iinc 5 1, 3) := by decide +kernel
theorem dX8_leastOf_71 : decode cX8_leastOf 71 = .ok (.goto (-56), 3) := by decide +kernel
theorem dX8_leastOf_74 : decode cX8_leastOf 74 = .ok (.aload_n 0, 1) := by decide +kernel
theorem dX8_leastOf_75 : decode cX8_leastOf 75 = .ok (.getfield 37, 3) := by decide +kernel
theorem dX8_leastOf_78 : decode cX8_leastOf 78 = .ok (.iconst 0, 1) := by decide +kernel
theorem dX8_leastOf_79 : decode cX8_leastOf 79 = .ok (.iload_n 2, 1) := by decide +kernel
theorem dX8_leastOf_80 : decode cX8_leastOf 80 = .ok (.iastore, 1) := by decide +kernel
theorem dX8_leastOf_81 : decode cX8_leastOf 81 = .ok (.iload_n 1, 1) := by decide +kernel
theorem dX8_leastOf_82 : decode cX8_leastOf 82 = .ok (.ifCond .ne 7, 3) := by decide +kernel
theorem dX8_leastOf_85 : decode cX8_leastOf 85 = .ok (.iload_n 3, 1) := by decide +kernel
theorem dX8_leastOf_86 : decode cX8_leastOf 86 = .ok (.goto 5, 3) := by decide +kernel
theorem dX8_leastOf_89 : decode cX8_leastOf 89 = .ok (.iload 4, 2) := by decide +kernel
theorem dX8_leastOf_91 : decode cX8_leastOf 91 = .ok (.ireturn, 1) := by decide +kernel
theorem dX8_least_0 : decode cX8_least 0 = .ok (.aload_n 0, 1) := by decide +kernel
theorem dX8_least_1 : decode cX8_least 1 = .ok (.invokevirtual 198, 3) := by decide +kernel
theorem dX8_least_4 : decode cX8_least 4 = .ok (.iload_n 1, 1) := by decide +kernel
theorem dX8_least_5 : decode cX8_least 5 = .ok (.invokestatic 104, 3) := by decide +kernel
theorem dX8_least_8 : decode cX8_least 8 = .ok (.ifCond .eq 11, 3) := by decide +kernel
theorem dX8_least_11 : decode cX8_least 11 = .ok (.aload_n 0, 1) := by decide +kernel
theorem dX8_least_12 : decode cX8_least 12 = .ok (.iload_n 1, 1) := by decide +kernel
theorem dX8_least_13 : decode cX8_least 13 = .ok (.invokevirtual 239, 3) := by decide +kernel
theorem dX8_least_16 : decode cX8_least 16 = .ok (.goto 5, 3) := by decide +kernel
theorem dX8_least_19 : decode cX8_least 19 = .ok (.bipush (-2), 2) := by decide +kernel
theorem dX8_least_21 : decode cX8_least 21 = .ok (.ireturn, 1) := by decide +kernel
theorem dX8_topOf_0 : decode cX8_topOf 0 = .ok (.iconst (-1), 1) := by decide +kernel
theorem dX8_topOf_1 : decode cX8_topOf 1 = .ok (.istore_n 2, 1) := by decide +kernel
theorem dX8_topOf_2 : decode cX8_topOf 2 = .ok (.iconst (-1), 1) := by decide +kernel
theorem dX8_topOf_3 : decode cX8_topOf 3 = .ok (.istore_n 3, 1) := by decide +kernel
theorem dX8_topOf_4 : decode cX8_topOf 4 = .ok (.iconst 0, 1) := by decide +kernel
theorem dX8_topOf_5 : decode cX8_topOf 5 = .ok (.istore 4, 2) := by decide +kernel
theorem dX8_topOf_7 : decode cX8_topOf 7 = .ok (.iload 4, 2) := by decide +kernel
theorem dX8_topOf_9 : decode cX8_topOf 9 = .ok (.bipush 8, 2) := by decide +kernel
theorem dX8_topOf_11 : decode cX8_topOf 11 = .ok (.if_icmp .ge 50, 3) := by decide +kernel
theorem dX8_topOf_14 : decode cX8_topOf 14 = .ok (.aload_n 0, 1) := by decide +kernel
theorem dX8_topOf_15 : decode cX8_topOf 15 = .ok (.iload 4, 2) := by decide +kernel
theorem dX8_topOf_17 : decode cX8_topOf 17 = .ok (.putfield 70, 3) := by decide +kernel
theorem dX8_topOf_20 : decode cX8_topOf 20 = .ok (.aload_n 0, 1) := by decide +kernel
theorem dX8_topOf_21 : decode cX8_topOf 21 = .ok (.invokevirtual 195, 3) := by decide +kernel
theorem dX8_topOf_24 : decode cX8_topOf 24 = .ok (.aload_n 0, 1) := by decide +kernel
theorem dX8_topOf_25 : decode cX8_topOf 25 = .ok (.bipush 9, 2) := by decide +kernel
theorem dX8_topOf_27 : decode cX8_topOf 27 = .ok (.invokevirtual 217, 3) := by decide +kernel
theorem dX8_topOf_30 : decode cX8_topOf 30 = .ok (.invokestatic 230, 3) := by decide +kernel
theorem dX8_topOf_33 : decode cX8_topOf 33 = .ok (.istore 5, 2) := by decide +kernel
theorem dX8_topOf_35 : decode cX8_topOf 35 = .ok (.iload 5, 2) := by decide +kernel
theorem dX8_topOf_37 : decode cX8_topOf 37 = .ok (.iload_n 3, 1) := by decide +kernel
theorem dX8_topOf_38 : decode cX8_topOf 38 = .ok (.if_icmp .le 8, 3) := by decide +kernel
theorem dX8_topOf_41 : decode cX8_topOf 41 = .ok (.iload 4, 2) := by decide +kernel
theorem dX8_topOf_43 : decode cX8_topOf 43 = .ok (.goto 4, 3) := by decide +kernel
theorem dX8_topOf_46 : decode cX8_topOf 46 = .ok (.iload_n 2, 1) := by decide +kernel
theorem dX8_topOf_47 : decode cX8_topOf 47 = .ok (.istore_n 2, 1) := by decide +kernel
theorem dX8_topOf_48 : decode cX8_topOf 48 = .ok (.iload 5, 2) := by decide +kernel
theorem dX8_topOf_50 : decode cX8_topOf 50 = .ok (.iload_n 3, 1) := by decide +kernel
theorem dX8_topOf_51 : decode cX8_topOf 51 = .ok (.invokestatic 236, 3) := by decide +kernel
theorem dX8_topOf_54 : decode cX8_topOf 54 = .ok (.istore_n 3, 1) := by decide +kernel
theorem dX8_topOf_55 : decode cX8_topOf 55 = .ok (.iinc 4 1, 3) := by decide +kernel
theorem dX8_topOf_58 : decode cX8_topOf 58 = .ok (.goto (-51), 3) := by decide +kernel
theorem dX8_topOf_61 : decode cX8_topOf 61 = .ok (.aload_n 0, 1) := by decide +kernel
theorem dX8_topOf_62 : decode cX8_topOf 62 = .ok (.iconst (-1), 1) := by decide +kernel
theorem dX8_topOf_63 : decode cX8_topOf 63 = .ok (.putfield 70, 3) := by decide +kernel
theorem dX8_topOf_66 : decode cX8_topOf 66 = .ok (.iload_n 1, 1) := by decide +kernel
theorem dX8_topOf_67 : decode cX8_topOf 67 = .ok (.ifCond .ne 7, 3) := by decide +kernel
theorem dX8_topOf_70 : decode cX8_topOf 70 = .ok (.iload_n 2, 1) := by decide +kernel
theorem dX8_topOf_71 : decode cX8_topOf 71 = .ok (.goto 4, 3) := by decide +kernel
theorem dX8_topOf_74 : decode cX8_topOf 74 = .ok (.iload_n 3, 1) := by decide +kernel
theorem dX8_topOf_75 : decode cX8_topOf 75 = .ok (.ireturn, 1) := by decide +kernel
theorem dX8_top_0 : decode cX8_top 0 = .ok (.aload_n 0, 1) := by decide +kernel
theorem dX8_top_1 : decode cX8_top 1 = .ok (.invokevirtual 198, 3) := by decide +kernel
theorem dX8_top_4 : decode cX8_top 4 = .ok (.iload_n 1, 1) := by decide +kernel
theorem dX8_top_5 : decode cX8_top 5 = .ok (.invokestatic 104, 3) := by decide +kernel
theorem dX8_top_8 : decode cX8_top 8 = .ok (.ifCond .eq 11, 3) := by decide +kernel
theorem dX8_top_11 : decode cX8_top 11 = .ok (.aload_n 0, 1) := by decide +kernel
theorem dX8_top_12 : decode cX8_top 12 = .ok (.iload_n 1, 1) := by decide +kernel
theorem dX8_top_13 : decode cX8_top 13 = .ok (.invokevirtual 242, 3) := by decide +kernel
theorem dX8_top_16 : decode cX8_top 16 = .ok (.goto 5, 3) := by decide +kernel
theorem dX8_top_19 : decode cX8_top 19 = .ok (.bipush (-2), 2) := by decide +kernel
theorem dX8_top_21 : decode cX8_top 21 = .ok (.ireturn, 1) := by decide +kernel
theorem dX8_seen_0 : decode cX8_seen 0 = .ok (.iload_n 1, 1) := by decide +kernel
theorem dX8_seen_1 : decode cX8_seen 1 = .ok (.invokestatic 201, 3) := by decide +kernel
theorem dX8_seen_4 : decode cX8_seen 4 = .ok (.ifCond .eq 27, 3) := by decide +kernel
theorem dX8_seen_7 : decode cX8_seen 7 = .ok (.iload_n 2, 1) := by decide +kernel
theorem dX8_seen_8 : decode cX8_seen 8 = .ok (.i2l, 1) := by decide +kernel
theorem dX8_seen_9 : decode cX8_seen 9 = .ok (.lconst 0, 1) := by decide +kernel
theorem dX8_seen_10 : decode cX8_seen 10 = .ok (.ldc2_w 145, 3) := by decide +kernel
theorem dX8_seen_13 : decode cX8_seen 13 = .ok (.invokestatic 76, 3) := by decide +kernel
theorem dX8_seen_16 : decode cX8_seen 16 = .ok (.ifCond .eq 15, 3) := by decide +kernel
theorem dX8_seen_19 : decode cX8_seen 19 = .ok (.iload_n 3, 1) := by decide +kernel
theorem dX8_seen_20 : decode cX8_seen 20 = .ok (.i2l, 1) := by decide +kernel
theorem dX8_seen_21 : decode cX8_seen 21 = .ok (.lconst 0, 1) := by decide +kernel
theorem dX8_seen_22 : decode cX8_seen 22 = .ok (.ldc2_w 245, 3) := by decide +kernel
theorem dX8_seen_25 : decode cX8_seen 25 = .ok (.invokestatic 76, 3) := by decide +kernel
theorem dX8_seen_28 : decode cX8_seen 28 = .ok (.ifCond .ne 6, 3) := by decide +kernel
theorem dX8_seen_31 : decode cX8_seen 31 = .ok (.bipush (-2), 2) := by decide +kernel
theorem dX8_seen_33 : decode cX8_seen 33 = .ok (.ireturn, 1) := by decide +kernel
theorem dX8_seen_34 : decode cX8_seen 34 = .ok (.aload_n 0, 1) := by decide +kernel
theorem dX8_seen_35 : decode cX8_seen 35 = .ok (.getfield 247, 3) := by decide +kernel
theorem dX8_seen_38 : decode cX8_seen 38 = .ok (.bipush 8, 2) := by decide +kernel
theorem dX8_seen_40 : decode cX8_seen 40 = .ok (.if_icmp .ne 6, 3) := by decide +kernel
theorem dX8_seen_43 : decode cX8_seen 43 = .ok (.bipush (-4), 2) := by decide +kernel
theorem dX8_seen_45 : decode cX8_seen 45 = .ok (.ireturn, 1) := by decide +kernel
theorem dX8_seen_46 : decode cX8_seen 46 = .ok (.aload_n 0, 1) := by decide +kernel
theorem dX8_seen_47 : decode cX8_seen 47 = .ok (.getfield 64, 3) := by decide +kernel
theorem dX8_seen_50 : decode cX8_seen 50 = .ok (.iconst 3, 1) := by decide +kernel
theorem dX8_seen_51 : decode cX8_seen 51 = .ok (.aload_n 0, 1) := by decide +kernel
theorem dX8_seen_52 : decode cX8_seen 52 = .ok (.getfield 247, 3) := by decide +kernel
theorem dX8_seen_55 : decode cX8_seen 55 = .ok (.imul, 1) := by decide +kernel
theorem dX8_seen_56 : decode cX8_seen 56 = .ok (.iload_n 1, 1) := by decide +kernel
theorem dX8_seen_57 : decode cX8_seen 57 = .ok (.iastore, 1) := by decide +kernel
theorem dX8_seen_58 : decode cX8_seen 58 = .ok (.aload_n 0, 1) := by decide +kernel
theorem dX8_seen_59 : decode cX8_seen 59 = .ok (.getfield 64, 3) := by decide +kernel
theorem dX8_seen_62 : decode cX8_seen 62 = .ok (.iconst 3, 1) := by decide +kernel
theorem dX8_seen_63 : decode cX8_seen 63 = .ok (.aload_n 0, 1) := by decide +kernel
theorem dX8_seen_64 : decode cX8_seen 64 = .ok (.getfield 247, 3) := by decide +kernel
theorem dX8_seen_67 : decode cX8_seen 67 = .ok (.imul, 1) := by decide +kernel
theorem dX8_seen_68 : decode cX8_seen 68 = .ok (.iconst 1, 1) := by decide +kernel
theorem dX8_seen_69 : decode cX8_seen 69 = .ok (.iadd, 1) := by decide +kernel
theorem dX8_seen_70 : decode cX8_seen 70 = .ok (.iload_n 2, 1) := by decide +kernel
theorem dX8_seen_71 : decode cX8_seen 71 = .ok (.iastore, 1) := by decide +kernel
theorem dX8_seen_72 : decode cX8_seen 72 = .ok (.aload_n 0, 1) := by decide +kernel
theorem dX8_seen_73 : decode cX8_seen 73 = .ok (.getfield 64, 3) := by decide +kernel
theorem dX8_seen_76 : decode cX8_seen 76 = .ok (.iconst 3, 1) := by decide +kernel
theorem dX8_seen_77 : decode cX8_seen 77 = .ok (.aload_n 0, 1) := by decide +kernel
theorem dX8_seen_78 : decode cX8_seen 78 = .ok (.getfield 247, 3) := by decide +kernel
theorem dX8_seen_81 : decode cX8_seen 81 = .ok (.imul, 1) := by decide +kernel
theorem dX8_seen_82 : decode cX8_seen 82 = .ok (.iconst 2, 1) := by decide +kernel
theorem dX8_seen_83 : decode cX8_seen 83 = .ok (.iadd, 1) := by decide +kernel
theorem dX8_seen_84 : decode cX8_seen 84 = .ok (.iload_n 3, 1) := by decide +kernel
theorem dX8_seen_85 : decode cX8_seen 85 = .ok (.iastore, 1) := by decide +kernel
theorem dX8_seen_86 : decode cX8_seen 86 = .ok (.aload_n 0, 1) := by decide +kernel
theorem dX8_seen_87 : decode cX8_seen 87 = .ok (.dup, 1) := by decide +kernel
theorem dX8_seen_88 : decode cX8_seen 88 = .ok (.getfield 247, 3) := by decide +kernel
theorem dX8_seen_91 : decode cX8_seen 91 = .ok (.iconst 1, 1) := by decide +kernel
theorem dX8_seen_92 : decode cX8_seen 92 = .ok (.iadd, 1) := by decide +kernel
theorem dX8_seen_93 : decode cX8_seen 93 = .ok (.putfield 247, 3) := by decide +kernel
theorem dX8_seen_96 : decode cX8_seen 96 = .ok (.aload_n 0, 1) := by decide +kernel
theorem dX8_seen_97 : decode cX8_seen 97 = .ok (.getfield 247, 3) := by decide +kernel
theorem dX8_seen_100 : decode cX8_seen 100 = .ok (.ireturn, 1) := by decide +kernel
theorem dX8_forget_0 : decode cX8_forget 0 = .ok (.aload_n 0, 1) := by decide +kernel
theorem dX8_forget_1 : decode cX8_forget 1 = .ok (.getfield 247, 3) := by decide +kernel
theorem dX8_forget_4 : decode cX8_forget 4 = .ok (.istore_n 1, 1) := by decide +kernel
theorem dX8_forget_5 : decode cX8_forget 5 = .ok (.aload_n 0, 1) := by decide +kernel
theorem dX8_forget_6 : decode cX8_forget 6 = .ok (.iconst 0, 1) := by decide +kernel
theorem dX8_forget_7 : decode cX8_forget 7 = .ok (.putfield 247, 3) := by decide +kernel
theorem dX8_forget_10 : decode cX8_forget 10 = .ok (.iload_n 1, 1) := by decide +kernel
theorem dX8_forget_11 : decode cX8_forget 11 = .ok (.ireturn, 1) := by decide +kernel
theorem dX8_read_0 : decode cX8_read 0 = .ok (.iload_n 1, 1) := by decide +kernel
theorem dX8_read_1 : decode cX8_read 1 = .ok (.invokestatic 85, 3) := by decide +kernel
theorem dX8_read_4 : decode cX8_read 4 = .ok (.ifCond .ne 6, 3) := by decide +kernel
theorem dX8_read_7 : decode cX8_read 7 = .ok (.bipush (-2), 2) := by decide +kernel
theorem dX8_read_9 : decode cX8_read 9 = .ok (.ireturn, 1) := by decide +kernel
theorem dX8_read_10 : decode cX8_read 10 = .ok (.aload_n 0, 1) := by decide +kernel
theorem dX8_read_11 : decode cX8_read 11 = .ok (.getfield 7, 3) := by decide +kernel
theorem dX8_read_14 : decode cX8_read 14 = .ok (.iload_n 1, 1) := by decide +kernel
theorem dX8_read_15 : decode cX8_read 15 = .ok (.iaload, 1) := by decide +kernel
theorem dX8_read_16 : decode cX8_read 16 = .ok (.ifCond .ge 9, 3) := by decide +kernel
theorem dX8_read_19 : decode cX8_read 19 = .ok (.aload_n 0, 1) := by decide +kernel
theorem dX8_read_20 : decode cX8_read 20 = .ok (.iconst 1, 1) := by decide +kernel
theorem dX8_read_21 : decode cX8_read 21 = .ok (.invokevirtual 91, 3) := by decide +kernel
theorem dX8_read_24 : decode cX8_read 24 = .ok (.ireturn, 1) := by decide +kernel
theorem dX8_read_25 : decode cX8_read 25 = .ok (.iconst 0, 1) := by decide +kernel
theorem dX8_read_26 : decode cX8_read 26 = .ok (.istore_n 2, 1) := by decide +kernel
theorem dX8_read_27 : decode cX8_read 27 = .ok (.iconst 1, 1) := by decide +kernel
theorem dX8_read_28 : decode cX8_read 28 = .ok (.istore_n 3, 1) := by decide +kernel
theorem dX8_read_29 : decode cX8_read 29 = .ok (.iload_n 3, 1) := by decide +kernel
theorem dX8_read_30 : decode cX8_read 30 = .ok (.ifCond .eq 80, 3) := by decide +kernel
theorem dX8_read_33 : decode cX8_read 33 = .ok (.iconst 3, 1) := by decide +kernel
theorem dX8_read_34 : decode cX8_read 34 = .ok (.iload_n 2, 1) := by decide +kernel
theorem dX8_read_35 : decode cX8_read 35 = .ok (.imul, 1) := by decide +kernel
theorem dX8_read_36 : decode cX8_read 36 = .ok (.iconst 3, 1) := by decide +kernel
theorem dX8_read_37 : decode cX8_read 37 = .ok (.iadd, 1) := by decide +kernel
theorem dX8_read_38 : decode cX8_read 38 = .ok (.aload_n 0, 1) := by decide +kernel
theorem dX8_read_39 : decode cX8_read 39 = .ok (.getfield 13, 3) := by decide +kernel
theorem dX8_read_42 : decode cX8_read 42 = .ok (.iload_n 1, 1) := by decide +kernel
theorem dX8_read_43 : decode cX8_read 43 = .ok (.iaload, 1) := by decide +kernel
theorem dX8_read_44 : decode cX8_read 44 = .ok (.if_icmp .gt 66, 3) := by decide +kernel
theorem dX8_read_47 : decode cX8_read 47 = .ok (.bipush 60, 2) := by decide +kernel
theorem dX8_read_49 : decode cX8_read 49 = .ok (.iload_n 1, 1) := by decide +kernel
theorem dX8_read_50 : decode cX8_read 50 = .ok (.imul, 1) := by decide +kernel
theorem dX8_read_51 : decode cX8_read 51 = .ok (.iconst 3, 1) := by decide +kernel
theorem dX8_read_52 : decode cX8_read 52 = .ok (.iload_n 2, 1) := by decide +kernel
theorem dX8_read_53 : decode cX8_read 53 = .ok (.imul, 1) := by decide +kernel
theorem dX8_read_54 : decode cX8_read 54 = .ok (.iadd, 1) := by decide +kernel
theorem dX8_read_55 : decode cX8_read 55 = .ok (.istore 4, 2) := by decide +kernel
theorem dX8_read_57 : decode cX8_read 57 = .ok (.aload_n 0, 1) := by decide +kernel
theorem dX8_read_58 : decode cX8_read 58 = .ok (.aload_n 0, 1) := by decide +kernel
theorem dX8_read_59 : decode cX8_read 59 = .ok (.getfield 16, 3) := by decide +kernel
theorem dX8_read_62 : decode cX8_read 62 = .ok (.iload 4, 2) := by decide +kernel
theorem dX8_read_64 : decode cX8_read 64 = .ok (.iaload, 1) := by decide +kernel
theorem dX8_read_65 : decode cX8_read 65 = .ok (.aload_n 0, 1) := by decide +kernel
theorem dX8_read_66 : decode cX8_read 66 = .ok (.getfield 16, 3) := by decide +kernel
theorem dX8_read_69 : decode cX8_read 69 = .ok (.iload 4, 2) := by decide +kernel
theorem dX8_read_71 : decode cX8_read 71 = .ok (.iconst 1, 1) := by decide +kernel
theorem dX8_read_72 : decode cX8_read 72 = .ok (.iadd, 1) := by decide +kernel
theorem dX8_read_73 : decode cX8_read 73 = .ok (.iaload, 1) := by decide +kernel
theorem dX8_read_74 : decode cX8_read 74 = .ok (.aload_n 0, 1) := by decide +kernel
theorem dX8_read_75 : decode cX8_read 75 = .ok (.getfield 16, 3) := by decide +kernel
theorem dX8_read_78 : decode cX8_read 78 = .ok (.iload 4, 2) := by decide +kernel
theorem dX8_read_80 : decode cX8_read 80 = .ok (.iconst 2, 1) := by decide +kernel
theorem dX8_read_81 : decode cX8_read 81 = .ok (.iadd, 1) := by decide +kernel
theorem dX8_read_82 : decode cX8_read 82 = .ok (.iaload, 1) := by decide +kernel
theorem dX8_read_83 : decode cX8_read 83 = .ok (.invokevirtual 250, 3) := by decide +kernel
theorem dX8_read_86 : decode cX8_read 86 = .ok (.ifCond .lt 7, 3) := by decide +kernel
theorem dX8_read_89 : decode cX8_read 89 = .ok (.iconst 1, 1) := by decide +kernel
theorem dX8_read_90 : decode cX8_read 90 = .ok (.goto 4, 3) := by decide +kernel
theorem dX8_read_93 : decode cX8_read 93 = .ok (.iconst 0, 1) := by decide +kernel
theorem dX8_read_94 : decode cX8_read 94 = .ok (.istore_n 3, 1) := by decide +kernel
theorem dX8_read_95 : decode cX8_read 95 = .ok (.iload_n 2, 1) := by decide +kernel
theorem dX8_read_96 : decode cX8_read 96 = .ok (.iload_n 3, 1) := by decide +kernel
theorem dX8_read_97 : decode cX8_read 97 = .ok (.ifCond .eq 7, 3) := by decide +kernel
theorem dX8_read_100 : decode cX8_read 100 = .ok (.iconst 1, 1) := by decide +kernel
theorem dX8_read_101 : decode cX8_read 101 = .ok (.goto 4, 3) := by decide +kernel
theorem dX8_read_104 : decode cX8_read 104 = .ok (.iconst 0, 1) := by decide +kernel
theorem dX8_read_105 : decode cX8_read 105 = .ok (.iadd, 1) := by decide +kernel
theorem dX8_read_106 : decode cX8_read 106 = .ok (.istore_n 2, 1) := by decide +kernel
theorem dX8_read_107 : decode cX8_read 107 = .ok (.goto (-78), 3) := by decide +kernel
theorem dX8_read_110 : decode cX8_read 110 = .ok (.iload_n 2, 1) := by decide +kernel
theorem dX8_read_111 : decode cX8_read 111 = .ok (.ireturn, 1) := by decide +kernel
theorem dX8_isSeen_0 : decode cX8_isSeen 0 = .ok (.aload_n 0, 1) := by decide +kernel
theorem dX8_isSeen_1 : decode cX8_isSeen 1 = .ok (.invokevirtual 195, 3) := by decide +kernel
theorem dX8_isSeen_4 : decode cX8_isSeen 4 = .ok (.iconst 1, 1) := by decide +kernel
theorem dX8_isSeen_5 : decode cX8_isSeen 5 = .ok (.istore_n 1, 1) := by decide +kernel
theorem dX8_isSeen_6 : decode cX8_isSeen 6 = .ok (.iconst 0, 1) := by decide +kernel
theorem dX8_isSeen_7 : decode cX8_isSeen 7 = .ok (.istore_n 2, 1) := by decide +kernel
theorem dX8_isSeen_8 : decode cX8_isSeen 8 = .ok (.iload_n 2, 1) := by decide +kernel
theorem dX8_isSeen_9 : decode cX8_isSeen 9 = .ok (.aload_n 0, 1) := by decide +kernel
theorem dX8_isSeen_10 : decode cX8_isSeen 10 = .ok (.getfield 247, 3) := by decide +kernel
theorem dX8_isSeen_13 : decode cX8_isSeen 13 = .ok (.if_icmp .ge 92, 3) := by decide +kernel
theorem dX8_isSeen_16 : decode cX8_isSeen 16 = .ok (.aload_n 0, 1) := by decide +kernel
theorem dX8_isSeen_17 : decode cX8_isSeen 17 = .ok (.getfield 64, 3) := by decide +kernel
theorem dX8_isSeen_20 : decode cX8_isSeen 20 = .ok (.iconst 3, 1) := by decide +kernel
theorem dX8_isSeen_21 : decode cX8_isSeen 21 = .ok (.iload_n 2, 1) := by decide +kernel
theorem dX8_isSeen_22 : decode cX8_isSeen 22 = .ok (.imul, 1) := by decide +kernel
theorem dX8_isSeen_23 : decode cX8_isSeen 23 = .ok (.iconst 1, 1) := by decide +kernel
theorem dX8_isSeen_24 : decode cX8_isSeen 24 = .ok (.iadd, 1) := by decide +kernel
theorem dX8_isSeen_25 : decode cX8_isSeen 25 = .ok (.iaload, 1) := by decide +kernel
theorem dX8_isSeen_26 : decode cX8_isSeen 26 = .ok (.istore_n 3, 1) := by decide +kernel
theorem dX8_isSeen_27 : decode cX8_isSeen 27 = .ok (.aload_n 0, 1) := by decide +kernel
theorem dX8_isSeen_28 : decode cX8_isSeen 28 = .ok (.getfield 64, 3) := by decide +kernel
theorem dX8_isSeen_31 : decode cX8_isSeen 31 = .ok (.iconst 3, 1) := by decide +kernel
theorem dX8_isSeen_32 : decode cX8_isSeen 32 = .ok (.iload_n 2, 1) := by decide +kernel
theorem dX8_isSeen_33 : decode cX8_isSeen 33 = .ok (.imul, 1) := by decide +kernel
theorem dX8_isSeen_34 : decode cX8_isSeen 34 = .ok (.iconst 2, 1) := by decide +kernel
theorem dX8_isSeen_35 : decode cX8_isSeen 35 = .ok (.iadd, 1) := by decide +kernel
theorem dX8_isSeen_36 : decode cX8_isSeen 36 = .ok (.iaload, 1) := by decide +kernel
theorem dX8_isSeen_37 : decode cX8_isSeen 37 = .ok (.bipush 8, 2) := by decide +kernel
theorem dX8_isSeen_39 : decode cX8_isSeen 39 = .ok (.if_icmp .ne 7, 3) := by decide +kernel
theorem dX8_isSeen_42 : decode cX8_isSeen 42 = .ok (.iconst (-1), 1) := by decide +kernel
theorem dX8_isSeen_43 : decode cX8_isSeen 43 = .ok (.goto 13, 3) := by decide +kernel
theorem dX8_isSeen_46 : decode cX8_isSeen 46 = .ok (.aload_n 0, 1) := by decide +kernel
theorem dX8_isSeen_47 : decode cX8_isSeen 47 = .ok (.getfield 64, 3) := by decide +kernel
theorem dX8_isSeen_50 : decode cX8_isSeen 50 = .ok (.iconst 3, 1) := by decide +kernel
theorem dX8_isSeen_51 : decode cX8_isSeen 51 = .ok (.iload_n 2, 1) := by decide +kernel
theorem dX8_isSeen_52 : decode cX8_isSeen 52 = .ok (.imul, 1) := by decide +kernel
theorem dX8_isSeen_53 : decode cX8_isSeen 53 = .ok (.iconst 2, 1) := by decide +kernel
theorem dX8_isSeen_54 : decode cX8_isSeen 54 = .ok (.iadd, 1) := by decide +kernel
theorem dX8_isSeen_55 : decode cX8_isSeen 55 = .ok (.iaload, 1) := by decide +kernel
theorem dX8_isSeen_56 : decode cX8_isSeen 56 = .ok (.istore 4, 2) := by decide +kernel
theorem dX8_isSeen_58 : decode cX8_isSeen 58 = .ok (.iload_n 1, 1) := by decide +kernel
theorem dX8_isSeen_59 : decode cX8_isSeen 59 = .ok (.ifCond .eq 38, 3) := by decide +kernel
theorem dX8_isSeen_62 : decode cX8_isSeen 62 = .ok (.aload_n 0, 1) := by decide +kernel
theorem dX8_isSeen_63 : decode cX8_isSeen 63 = .ok (.iload_n 3, 1) := by decide +kernel
theorem dX8_isSeen_64 : decode cX8_isSeen 64 = .ok (.invokevirtual 142, 3) := by decide +kernel
theorem dX8_isSeen_67 : decode cX8_isSeen 67 = .ok (.ifCond .eq 30, 3) := by decide +kernel
theorem dX8_isSeen_70 : decode cX8_isSeen 70 = .ok (.aload_n 0, 1) := by decide +kernel
theorem dX8_isSeen_71 : decode cX8_isSeen 71 = .ok (.getfield 49, 3) := by decide +kernel
theorem dX8_isSeen_74 : decode cX8_isSeen 74 = .ok (.bipush 8, 2) := by decide +kernel
theorem dX8_isSeen_76 : decode cX8_isSeen 76 = .ok (.aload_n 0, 1) := by decide +kernel
theorem dX8_isSeen_77 : decode cX8_isSeen 77 = .ok (.getfield 64, 3) := by decide +kernel
theorem dX8_isSeen_80 : decode cX8_isSeen 80 = .ok (.iconst 3, 1) := by decide +kernel
theorem dX8_isSeen_81 : decode cX8_isSeen 81 = .ok (.iload_n 2, 1) := by decide +kernel
theorem dX8_isSeen_82 : decode cX8_isSeen 82 = .ok (.imul, 1) := by decide +kernel
theorem dX8_isSeen_83 : decode cX8_isSeen 83 = .ok (.iaload, 1) := by decide +kernel
theorem dX8_isSeen_84 : decode cX8_isSeen 84 = .ok (.imul, 1) := by decide +kernel
theorem dX8_isSeen_85 : decode cX8_isSeen 85 = .ok (.iload_n 3, 1) := by decide +kernel
theorem dX8_isSeen_86 : decode cX8_isSeen 86 = .ok (.iadd, 1) := by decide +kernel
theorem dX8_isSeen_87 : decode cX8_isSeen 87 = .ok (.iaload, 1) := by decide +kernel
theorem dX8_isSeen_88 : decode cX8_isSeen 88 = .ok (.iload 4, 2) := by decide +kernel
theorem dX8_isSeen_90 : decode cX8_isSeen 90 = .ok (.if_icmp .ne 7, 3) := by decide +kernel
theorem dX8_isSeen_93 : decode cX8_isSeen 93 = .ok (.iconst 1, 1) := by decide +kernel
theorem dX8_isSeen_94 : decode cX8_isSeen 94 = .ok (.goto 4, 3) := by decide +kernel
theorem dX8_isSeen_97 : decode cX8_isSeen 97 = .ok (.iconst 0, 1) := by decide +kernel
theorem dX8_isSeen_98 : decode cX8_isSeen 98 = .ok (.istore_n 1, 1) := by decide +kernel
theorem dX8_isSeen_99 : decode cX8_isSeen 99 = .ok (.iinc 2 1, 3) := by decide +kernel
theorem dX8_isSeen_102 : decode cX8_isSeen 102 = .ok (.goto (-94), 3) := by decide +kernel
theorem dX8_isSeen_105 : decode cX8_isSeen 105 = .ok (.iload_n 1, 1) := by decide +kernel
theorem dX8_isSeen_106 : decode cX8_isSeen 106 = .ok (.ireturn, 1) := by decide +kernel
theorem dX8_hadOf_0 : decode cX8_hadOf 0 = .ok (.aload_n 0, 1) := by decide +kernel
theorem dX8_hadOf_1 : decode cX8_hadOf 1 = .ok (.getfield 28, 3) := by decide +kernel
theorem dX8_hadOf_4 : decode cX8_hadOf 4 = .ok (.iconst 4, 1) := by decide +kernel
theorem dX8_hadOf_5 : decode cX8_hadOf 5 = .ok (.iload_n 1, 1) := by decide +kernel
theorem dX8_hadOf_6 : decode cX8_hadOf 6 = .ok (.imul, 1) := by decide +kernel
theorem dX8_hadOf_7 : decode cX8_hadOf 7 = .ok (.iaload, 1) := by decide +kernel
theorem dX8_hadOf_8 : decode cX8_hadOf 8 = .ok (.istore_n 2, 1) := by decide +kernel
theorem dX8_hadOf_9 : decode cX8_hadOf 9 = .ok (.iconst 0, 1) := by decide +kernel
theorem dX8_hadOf_10 : decode cX8_hadOf 10 = .ok (.istore_n 3, 1) := by decide +kernel
theorem dX8_hadOf_11 : decode cX8_hadOf 11 = .ok (.iconst 0, 1) := by decide +kernel
theorem dX8_hadOf_12 : decode cX8_hadOf 12 = .ok (.istore 4, 2) := by decide +kernel
theorem dX8_hadOf_14 : decode cX8_hadOf 14 = .ok (.iload 4, 2) := by decide +kernel
theorem dX8_hadOf_16 : decode cX8_hadOf 16 = .ok (.bipush 8, 2) := by decide +kernel
theorem dX8_hadOf_18 : decode cX8_hadOf 18 = .ok (.if_icmp .ge 37, 3) := by decide +kernel
theorem dX8_hadOf_21 : decode cX8_hadOf 21 = .ok (.aload_n 0, 1) := by decide +kernel
theorem dX8_hadOf_22 : decode cX8_hadOf 22 = .ok (.getfield 28, 3) := by decide +kernel
theorem dX8_hadOf_25 : decode cX8_hadOf 25 = .ok (.iconst 4, 1) := by decide +kernel
theorem dX8_hadOf_26 : decode cX8_hadOf 26 = .ok (.iload_n 1, 1) := by decide +kernel
theorem dX8_hadOf_27 : decode cX8_hadOf 27 = .ok (.imul, 1) := by decide +kernel
theorem dX8_hadOf_28 : decode cX8_hadOf 28 = .ok (.iload 4, 2) := by decide +kernel
theorem dX8_hadOf_30 : decode cX8_hadOf 30 = .ok (.iastore, 1) := by decide +kernel
theorem dX8_hadOf_31 : decode cX8_hadOf 31 = .ok (.iload_n 3, 1) := by decide +kernel
theorem dX8_hadOf_32 : decode cX8_hadOf 32 = .ok (.aload_n 0, 1) := by decide +kernel
theorem dX8_hadOf_33 : decode cX8_hadOf 33 = .ok (.invokevirtual 253, 3) := by decide +kernel
theorem dX8_hadOf_36 : decode cX8_hadOf 36 = .ok (.ifCond .eq 10, 3) := by decide +kernel
theorem dX8_hadOf_39 : decode cX8_hadOf 39 = .ok (.iconst 1, 1) := by decide +kernel
theorem dX8_hadOf_40 : decode cX8_hadOf 40 = .ok (.iload 4, 2) := by decide +kernel
theorem dX8_hadOf_42 : decode cX8_hadOf 42 = .ok (.ishl, 1) := by decide +kernel
theorem dX8_hadOf_43 : decode cX8_hadOf 43 = .ok (.goto 4, 3) := by decide +kernel
theorem dX8_hadOf_46 : decode cX8_hadOf 46 = .ok (.iconst 0, 1) := by decide +kernel
theorem dX8_hadOf_47 : decode cX8_hadOf 47 = .ok (.ior, 1) := by decide +kernel
theorem dX8_hadOf_48 : decode cX8_hadOf 48 = .ok (.istore_n 3, 1) := by decide +kernel
theorem dX8_hadOf_49 : decode cX8_hadOf 49 = .ok (.iinc 4 1, 3) := by decide +kernel
theorem dX8_hadOf_52 : decode cX8_hadOf 52 = .ok (.goto (-38), 3) := by decide +kernel
theorem dX8_hadOf_55 : decode cX8_hadOf 55 = .ok (.aload_n 0, 1) := by decide +kernel
theorem dX8_hadOf_56 : decode cX8_hadOf 56 = .ok (.getfield 28, 3) := by decide +kernel
theorem dX8_hadOf_59 : decode cX8_hadOf 59 = .ok (.iconst 4, 1) := by decide +kernel
theorem dX8_hadOf_60 : decode cX8_hadOf 60 = .ok (.iload_n 1, 1) := by decide +kernel
theorem dX8_hadOf_61 : decode cX8_hadOf 61 = .ok (.imul, 1) := by decide +kernel
theorem dX8_hadOf_62 : decode cX8_hadOf 62 = .ok (.iload_n 2, 1) := by decide +kernel
theorem dX8_hadOf_63 : decode cX8_hadOf 63 = .ok (.iastore, 1) := by decide +kernel
theorem dX8_hadOf_64 : decode cX8_hadOf 64 = .ok (.iload_n 3, 1) := by decide +kernel
theorem dX8_hadOf_65 : decode cX8_hadOf 65 = .ok (.ireturn, 1) := by decide +kernel
theorem dX8_had_0 : decode cX8_had 0 = .ok (.aload_n 0, 1) := by decide +kernel
theorem dX8_had_1 : decode cX8_had 1 = .ok (.invokevirtual 198, 3) := by decide +kernel
theorem dX8_had_4 : decode cX8_had 4 = .ok (.aload_n 0, 1) := by decide +kernel
theorem dX8_had_5 : decode cX8_had 5 = .ok (.iload_n 1, 1) := by decide +kernel
theorem dX8_had_6 : decode cX8_had 6 = .ok (.invokevirtual 142, 3) := by decide +kernel
theorem dX8_had_9 : decode cX8_had 9 = .ok (.ifCond .eq 11, 3) := by decide +kernel
theorem dX8_had_12 : decode cX8_had 12 = .ok (.aload_n 0, 1) := by decide +kernel
theorem dX8_had_13 : decode cX8_had 13 = .ok (.iload_n 1, 1) := by decide +kernel
theorem dX8_had_14 : decode cX8_had 14 = .ok (.invokevirtual 257, 3) := by decide +kernel
theorem dX8_had_17 : decode cX8_had 17 = .ok (.goto 5, 3) := by decide +kernel
theorem dX8_had_20 : decode cX8_had 20 = .ok (.bipush (-2), 2) := by decide +kernel
theorem dX8_had_22 : decode cX8_had 22 = .ok (.ireturn, 1) := by decide +kernel
theorem dX8_wasNow_0 : decode cX8_wasNow 0 = .ok (.aload_n 0, 1) := by decide +kernel
theorem dX8_wasNow_1 : decode cX8_wasNow 1 = .ok (.getfield 37, 3) := by decide +kernel
theorem dX8_wasNow_4 : decode cX8_wasNow 4 = .ok (.iconst 0, 1) := by decide +kernel
theorem dX8_wasNow_5 : decode cX8_wasNow 5 = .ok (.iaload, 1) := by decide +kernel
theorem dX8_wasNow_6 : decode cX8_wasNow 6 = .ok (.istore_n 1, 1) := by decide +kernel
theorem dX8_wasNow_7 : decode cX8_wasNow 7 = .ok (.iconst 0, 1) := by decide +kernel
theorem dX8_wasNow_8 : decode cX8_wasNow 8 = .ok (.istore_n 2, 1) := by decide +kernel
theorem dX8_wasNow_9 : decode cX8_wasNow 9 = .ok (.iconst 0, 1) := by decide +kernel
theorem dX8_wasNow_10 : decode cX8_wasNow 10 = .ok (.istore_n 3, 1) := by decide +kernel
theorem dX8_wasNow_11 : decode cX8_wasNow 11 = .ok (.iload_n 3, 1) := by decide +kernel
theorem dX8_wasNow_12 : decode cX8_wasNow 12 = .ok (.bipush 10, 2) := by decide +kernel
theorem dX8_wasNow_14 : decode cX8_wasNow 14 = .ok (.if_icmp .ge 33, 3) := by decide +kernel
theorem dX8_wasNow_17 : decode cX8_wasNow 17 = .ok (.aload_n 0, 1) := by decide +kernel
theorem dX8_wasNow_18 : decode cX8_wasNow 18 = .ok (.getfield 37, 3) := by decide +kernel
theorem dX8_wasNow_21 : decode cX8_wasNow 21 = .ok (.iconst 0, 1) := by decide +kernel
theorem dX8_wasNow_22 : decode cX8_wasNow 22 = .ok (.iload_n 3, 1) := by decide +kernel
theorem dX8_wasNow_23 : decode cX8_wasNow 23 = .ok (.iastore, 1) := by decide +kernel
theorem dX8_wasNow_24 : decode cX8_wasNow 24 = .ok (.iload_n 2, 1) := by decide +kernel
theorem dX8_wasNow_25 : decode cX8_wasNow 25 = .ok (.aload_n 0, 1) := by decide +kernel
theorem dX8_wasNow_26 : decode cX8_wasNow 26 = .ok (.invokevirtual 253, 3) := by decide +kernel
theorem dX8_wasNow_29 : decode cX8_wasNow 29 = .ok (.ifCond .eq 9, 3) := by decide +kernel
theorem dX8_wasNow_32 : decode cX8_wasNow 32 = .ok (.iconst 1, 1) := by decide +kernel
theorem dX8_wasNow_33 : decode cX8_wasNow 33 = .ok (.iload_n 3, 1) := by decide +kernel
theorem dX8_wasNow_34 : decode cX8_wasNow 34 = .ok (.ishl, 1) := by decide +kernel
theorem dX8_wasNow_35 : decode cX8_wasNow 35 = .ok (.goto 4, 3) := by decide +kernel
theorem dX8_wasNow_38 : decode cX8_wasNow 38 = .ok (.iconst 0, 1) := by decide +kernel
theorem dX8_wasNow_39 : decode cX8_wasNow 39 = .ok (.ior, 1) := by decide +kernel
theorem dX8_wasNow_40 : decode cX8_wasNow 40 = .ok (.istore_n 2, 1) := by decide +kernel
theorem dX8_wasNow_41 : decode cX8_wasNow 41 = .ok (.iinc 3 1, 3) := by decide +kernel
theorem dX8_wasNow_44 : decode cX8_wasNow 44 = .ok (.goto (-33), 3) := by decide +kernel
theorem dX8_wasNow_47 : decode cX8_wasNow 47 = .ok (.aload_n 0, 1) := by decide +kernel
theorem dX8_wasNow_48 : decode cX8_wasNow 48 = .ok (.getfield 37, 3) := by decide +kernel
theorem dX8_wasNow_51 : decode cX8_wasNow 51 = .ok (.iconst 0, 1) := by decide +kernel
theorem dX8_wasNow_52 : decode cX8_wasNow 52 = .ok (.iload_n 1, 1) := by decide +kernel
theorem dX8_wasNow_53 : decode cX8_wasNow 53 = .ok (.iastore, 1) := by decide +kernel
theorem dX8_wasNow_54 : decode cX8_wasNow 54 = .ok (.iload_n 2, 1) := by decide +kernel
theorem dX8_wasNow_55 : decode cX8_wasNow 55 = .ok (.ireturn, 1) := by decide +kernel
theorem dX8_was_0 : decode cX8_was 0 = .ok (.aload_n 0, 1) := by decide +kernel
theorem dX8_was_1 : decode cX8_was 1 = .ok (.invokevirtual 198, 3) := by decide +kernel
theorem dX8_was_4 : decode cX8_was 4 = .ok (.aload_n 0, 1) := by decide +kernel
theorem dX8_was_5 : decode cX8_was 5 = .ok (.invokevirtual 260, 3) := by decide +kernel
theorem dX8_was_8 : decode cX8_was 8 = .ok (.ireturn, 1) := by decide +kernel
theorem dX8_askOf_0 : decode cX8_askOf 0 = .ok (.aload_n 0, 1) := by decide +kernel
theorem dX8_askOf_1 : decode cX8_askOf 1 = .ok (.invokevirtual 260, 3) := by decide +kernel
theorem dX8_askOf_4 : decode cX8_askOf 4 = .ok (.istore_n 2, 1) := by decide +kernel
theorem dX8_askOf_5 : decode cX8_askOf 5 = .ok (.aload_n 0, 1) := by decide +kernel
theorem dX8_askOf_6 : decode cX8_askOf 6 = .ok (.getfield 37, 3) := by decide +kernel
theorem dX8_askOf_9 : decode cX8_askOf 9 = .ok (.iconst 0, 1) := by decide +kernel
theorem dX8_askOf_10 : decode cX8_askOf 10 = .ok (.iaload, 1) := by decide +kernel
theorem dX8_askOf_11 : decode cX8_askOf 11 = .ok (.istore_n 3, 1) := by decide +kernel
theorem dX8_askOf_12 : decode cX8_askOf 12 = .ok (.iconst 0, 1) := by decide +kernel
theorem dX8_askOf_13 : decode cX8_askOf 13 = .ok (.istore 4, 2) := by decide +kernel
theorem dX8_askOf_15 : decode cX8_askOf 15 = .ok (.iload 4, 2) := by decide +kernel
theorem dX8_askOf_17 : decode cX8_askOf 17 = .ok (.bipush 72, 2) := by decide +kernel
theorem dX8_askOf_19 : decode cX8_askOf 19 = .ok (.if_icmp .ge 17, 3) := by decide +kernel
theorem dX8_askOf_22 : decode cX8_askOf 22 = .ok (.aload_n 0, 1) := by decide +kernel
theorem dX8_askOf_23 : decode cX8_askOf 23 = .ok (.getfield 67, 3) := by decide +kernel
theorem dX8_askOf_26 : decode cX8_askOf 26 = .ok (.iload 4, 2) := by decide +kernel
theorem dX8_askOf_28 : decode cX8_askOf 28 = .ok (.iconst 0, 1) := by decide +kernel
theorem dX8_askOf_29 : decode cX8_askOf 29 = .ok (.iastore, 1) := by decide +kernel
theorem dX8_askOf_30 : decode cX8_askOf 30 = .ok (.iinc 4 1, 3) := by decide +kernel
theorem dX8_askOf_33 : decode cX8_askOf 33 = .ok (.goto (-18), 3) := by decide +kernel
theorem dX8_askOf_36 : decode cX8_askOf 36 = .ok (.iconst 0, 1) := by decide +kernel
theorem dX8_askOf_37 : decode cX8_askOf 37 = .ok (.istore 4, 2) := by decide +kernel
theorem dX8_askOf_39 : decode cX8_askOf 39 = .ok (.iload 4, 2) := by decide +kernel
theorem dX8_askOf_41 : decode cX8_askOf 41 = .ok (.bipush 10, 2) := by decide +kernel
theorem dX8_askOf_43 : decode cX8_askOf 43 = .ok (.if_icmp .ge 77, 3) := by decide +kernel
theorem dX8_askOf_46 : decode cX8_askOf 46 = .ok (.iload_n 2, 1) := by decide +kernel
theorem dX8_askOf_47 : decode cX8_askOf 47 = .ok (.iload 4, 2) := by decide +kernel
theorem dX8_askOf_49 : decode cX8_askOf 49 = .ok (.invokestatic 153, 3) := by decide +kernel
theorem dX8_askOf_52 : decode cX8_askOf 52 = .ok (.ifCond .eq 62, 3) := by decide +kernel
theorem dX8_askOf_55 : decode cX8_askOf 55 = .ok (.aload_n 0, 1) := by decide +kernel
theorem dX8_askOf_56 : decode cX8_askOf 56 = .ok (.getfield 37, 3) := by decide +kernel
theorem dX8_askOf_59 : decode cX8_askOf 59 = .ok (.iconst 0, 1) := by decide +kernel
theorem dX8_askOf_60 : decode cX8_askOf 60 = .ok (.iload 4, 2) := by decide +kernel
theorem dX8_askOf_62 : decode cX8_askOf 62 = .ok (.iastore, 1) := by decide +kernel
theorem dX8_askOf_63 : decode cX8_askOf 63 = .ok (.aload_n 0, 1) := by decide +kernel
theorem dX8_askOf_64 : decode cX8_askOf 64 = .ok (.invokevirtual 195, 3) := by decide +kernel
theorem dX8_askOf_67 : decode cX8_askOf 67 = .ok (.iconst 0, 1) := by decide +kernel
theorem dX8_askOf_68 : decode cX8_askOf 68 = .ok (.istore 5, 2) := by decide +kernel
theorem dX8_askOf_70 : decode cX8_askOf 70 = .ok (.iload 5, 2) := by decide +kernel
theorem dX8_askOf_72 : decode cX8_askOf 72 = .ok (.aload_n 0, 1) := by decide +kernel
theorem dX8_askOf_73 : decode cX8_askOf 73 = .ok (.getfield 120, 3) := by decide +kernel
theorem dX8_askOf_76 : decode cX8_askOf 76 = .ok (.if_icmp .ge 38, 3) := by decide +kernel
theorem dX8_askOf_79 : decode cX8_askOf 79 = .ok (.aload_n 0, 1) := by decide +kernel
theorem dX8_askOf_80 : decode cX8_askOf 80 = .ok (.getfield 67, 3) := by decide +kernel
theorem dX8_askOf_83 : decode cX8_askOf 83 = .ok (.bipush 9, 2) := by decide +kernel
theorem dX8_askOf_85 : decode cX8_askOf 85 = .ok (.iload 5, 2) := by decide +kernel
theorem dX8_askOf_87 : decode cX8_askOf 87 = .ok (.imul, 1) := by decide +kernel
theorem dX8_askOf_88 : decode cX8_askOf 88 = .ok (.aload_n 0, 1) := by decide +kernel
theorem dX8_askOf_89 : decode cX8_askOf 89 = .ok (.getfield 49, 3) := by decide +kernel
theorem dX8_askOf_92 : decode cX8_askOf 92 = .ok (.bipush 8, 2) := by decide +kernel
theorem dX8_askOf_94 : decode cX8_askOf 94 = .ok (.iload_n 1, 1) := by decide +kernel
theorem dX8_askOf_95 : decode cX8_askOf 95 = .ok (.imul, 1) := by decide +kernel
theorem dX8_askOf_96 : decode cX8_askOf 96 = .ok (.iload 5, 2) := by decide +kernel
theorem dX8_askOf_98 : decode cX8_askOf 98 = .ok (.iadd, 1) := by decide +kernel
theorem dX8_askOf_99 : decode cX8_askOf 99 = .ok (.iaload, 1) := by decide +kernel
theorem dX8_askOf_100 : decode cX8_askOf 100 = .ok (.iadd, 1) := by decide +kernel
theorem dX8_askOf_101 : decode cX8_askOf 101 = .ok (.iconst 1, 1) := by decide +kernel
theorem dX8_askOf_102 : decode cX8_askOf 102 = .ok (.iadd, 1) := by decide +kernel
theorem dX8_askOf_103 : decode cX8_askOf 103 = .ok (.dup2, 1) := by decide +kernel
theorem dX8_askOf_104 : decode cX8_askOf 104 = .ok (.iaload, 1) := by decide +kernel
theorem dX8_askOf_105 : decode cX8_askOf 105 = .ok (.iconst 1, 1) := by decide +kernel
theorem dX8_askOf_106 : decode cX8_askOf 106 = .ok (.iadd, 1) := by decide +kernel
theorem dX8_askOf_107 : decode cX8_askOf 107 = .ok (.iastore, 1) := by decide +kernel
theorem dX8_askOf_108 : decode cX8_askOf 108 = .ok (.iinc 5 1, 3) := by decide +kernel
theorem dX8_askOf_111 : decode cX8_askOf 111 = .ok (.goto (-41), 3) := by decide +kernel
theorem dX8_askOf_114 : decode cX8_askOf 114 = .ok (.iinc 4 1, 3) := by decide +kernel
theorem dX8_askOf_117 : decode cX8_askOf 117 = .ok (.goto (-78), 3) := by decide +kernel
theorem dX8_askOf_120 : decode cX8_askOf 120 = .ok (.aload_n 0, 1) := by decide +kernel
theorem dX8_askOf_121 : decode cX8_askOf 121 = .ok (.getfield 37, 3) := by decide +kernel
theorem dX8_askOf_124 : decode cX8_askOf 124 = .ok (.iconst 0, 1) := by decide +kernel
theorem dX8_askOf_125 : decode cX8_askOf 125 = .ok (.iload_n 3, 1) := by decide +kernel
theorem dX8_askOf_126 : decode cX8_askOf 126 = .ok (.iastore, 1) := by decide +kernel
theorem dX8_askOf_127 : decode cX8_askOf 127 = .ok (.iconst (-1), 1) := by decide +kernel
theorem dX8_askOf_128 : decode cX8_askOf 128 = .ok (.istore 4, 2) := by decide +kernel
theorem dX8_askOf_130 : decode cX8_askOf 130 = .ok (.iconst 0, 1) := by decide +kernel
theorem dX8_askOf_131 : decode cX8_askOf 131 = .ok (.istore 5, 2) := by decide +kernel
theorem dX8_askOf_133 : decode cX8_askOf 133 = .ok (.iconst 0, 1) := by decide +kernel
theorem dX8_askOf_134 : decode cX8_askOf 134 = .ok (.istore 6, 2) := by decide +kernel
theorem dX8_askOf_136 : decode cX8_askOf 136 = .ok (.iload 6, 2) := by decide +kernel
theorem dX8_askOf_138 : decode cX8_askOf 138 = .ok (.aload_n 0, 1) := by decide +kernel
theorem dX8_askOf_139 : decode cX8_askOf 139 = .ok (.getfield 120, 3) := by decide +kernel
theorem dX8_askOf_142 : decode cX8_askOf 142 = .ok (.if_icmp .ge 96, 3) := by decide +kernel
theorem dX8_askOf_145 : decode cX8_askOf 145 = .ok (.iconst 0, 1) := by decide +kernel
theorem dX8_askOf_146 : decode cX8_askOf 146 = .ok (.istore 7, 2) := by decide +kernel
theorem dX8_askOf_148 : decode cX8_askOf 148 = .ok (.iconst 0, 1) := by decide +kernel
theorem dX8_askOf_149 : decode cX8_askOf 149 = .ok (.istore 8, 2) := by decide +kernel
theorem dX8_askOf_151 : decode cX8_askOf 151 = .ok (.iload 8, 2) := by decide +kernel
theorem dX8_askOf_153 : decode cX8_askOf 153 = .ok (.bipush 9, 2) := by decide +kernel
theorem dX8_askOf_155 : decode cX8_askOf 155 = .ok (.if_icmp .ge 29, 3) := by decide +kernel
theorem dX8_askOf_158 : decode cX8_askOf 158 = .ok (.aload_n 0, 1) := by decide +kernel
theorem dX8_askOf_159 : decode cX8_askOf 159 = .ok (.getfield 67, 3) := by decide +kernel
theorem dX8_askOf_162 : decode cX8_askOf 162 = .ok (.bipush 9, 2) := by decide +kernel
theorem dX8_askOf_164 : decode cX8_askOf 164 = .ok (.iload 6, 2) := by decide +kernel
theorem dX8_askOf_166 : decode cX8_askOf 166 = .ok (.imul, 1) := by decide +kernel
theorem dX8_askOf_167 : decode cX8_askOf 167 = .ok (.iload 8, 2) := by decide +kernel
theorem dX8_askOf_169 : decode cX8_askOf 169 = .ok (.iadd, 1) := by decide +kernel
theorem dX8_askOf_170 : decode cX8_askOf 170 = .ok (.iaload, 1) := by decide +kernel
theorem dX8_askOf_171 : decode cX8_askOf 171 = .ok (.iload 7, 2) := by decide +kernel
theorem dX8_askOf_173 : decode cX8_askOf 173 = .ok (.invokestatic 236, 3) := by decide +kernel
theorem dX8_askOf_176 : decode cX8_askOf 176 = .ok (.istore 7, 2) := by decide +kernel
theorem dX8_askOf_178 : decode cX8_askOf 178 = .ok (.iinc 8 1, 3) := by decide +kernel
theorem dX8_askOf_181 : decode cX8_askOf 181 = .ok (.goto (-30), 3) := by decide +kernel
theorem dX8_askOf_184 : decode cX8_askOf 184 = .ok (.iload 4, 2) := by decide +kernel
theorem dX8_askOf_186 : decode cX8_askOf 186 = .ok (.iconst (-1), 1) := by decide +kernel
theorem dX8_askOf_187 : decode cX8_askOf 187 = .ok (.if_icmp .eq 10, 3) := by decide +kernel
theorem dX8_askOf_190 : decode cX8_askOf 190 = .ok (.iload 7, 2) := by decide +kernel
theorem dX8_askOf_192 : decode cX8_askOf 192 = .ok (.iload 5, 2) := by decide +kernel
theorem dX8_askOf_194 : decode cX8_askOf 194 = .ok (.if_icmp .ge 7, 3) := by decide +kernel
theorem dX8_askOf_197 : decode cX8_askOf 197 = .ok (.iconst 1, 1) := by decide +kernel
theorem dX8_askOf_198 : decode cX8_askOf 198 = .ok (.goto 4, 3) := by decide +kernel
theorem dX8_askOf_201 : decode cX8_askOf 201 = .ok (.iconst 0, 1) := by decide +kernel
theorem dX8_askOf_202 : decode cX8_askOf 202 = .ok (.istore 8, 2) := by decide +kernel
theorem dX8_askOf_204 : decode cX8_askOf 204 = .ok (.iload 8, 2) := by decide +kernel
theorem dX8_askOf_206 : decode cX8_askOf 206 = .ok (.ifCond .eq 8, 3) := by decide +kernel
theorem dX8_askOf_209 : decode cX8_askOf 209 = .ok (.iload 6, 2) := by decide +kernel
theorem dX8_askOf_211 : decode cX8_askOf 211 = .ok (.goto 5, 3) := by decide +kernel
theorem dX8_askOf_214 : decode cX8_askOf 214 = .ok (.iload 4, 2) := by decide +kernel
theorem dX8_askOf_216 : decode cX8_askOf 216 = .ok (.istore 4, 2) := by decide +kernel
theorem dX8_askOf_218 : decode cX8_askOf 218 = .ok (.iload 8, 2) := by decide +kernel
theorem dX8_askOf_220 : decode cX8_askOf 220 = .ok (.ifCond .eq 8, 3) := by decide +kernel
theorem dX8_askOf_223 : decode cX8_askOf 223 = .ok (.iload 7, 2) := by decide +kernel
theorem dX8_askOf_225 : decode cX8_askOf 225 = .ok (.goto 5, 3) := by decide +kernel
theorem dX8_askOf_228 : decode cX8_askOf 228 = .ok (.iload 5, 2) := by decide +kernel
theorem dX8_askOf_230 : decode cX8_askOf 230 = .ok (.istore 5, 2) := by decide +kernel
theorem dX8_askOf_232 : decode cX8_askOf 232 = .ok (.iinc 6 1, 3) := by decide +kernel
theorem dX8_askOf_235 : decode cX8_askOf 235 = .ok (.goto (-99), 3) := by decide +kernel
theorem dX8_askOf_238 : decode cX8_askOf 238 = .ok (.iload 4, 2) := by decide +kernel
theorem dX8_askOf_240 : decode cX8_askOf 240 = .ok (.ireturn, 1) := by decide +kernel
theorem dX8_ask_0 : decode cX8_ask 0 = .ok (.aload_n 0, 1) := by decide +kernel
theorem dX8_ask_1 : decode cX8_ask 1 = .ok (.invokevirtual 198, 3) := by decide +kernel
theorem dX8_ask_4 : decode cX8_ask 4 = .ok (.iload_n 1, 1) := by decide +kernel
theorem dX8_ask_5 : decode cX8_ask 5 = .ok (.invokestatic 201, 3) := by decide +kernel
theorem dX8_ask_8 : decode cX8_ask 8 = .ok (.ifCond .eq 11, 3) := by decide +kernel
theorem dX8_ask_11 : decode cX8_ask 11 = .ok (.aload_n 0, 1) := by decide +kernel
theorem dX8_ask_12 : decode cX8_ask 12 = .ok (.iload_n 1, 1) := by decide +kernel
theorem dX8_ask_13 : decode cX8_ask 13 = .ok (.invokevirtual 263, 3) := by decide +kernel
theorem dX8_ask_16 : decode cX8_ask 16 = .ok (.goto 5, 3) := by decide +kernel
theorem dX8_ask_19 : decode cX8_ask 19 = .ok (.bipush (-2), 2) := by decide +kernel
theorem dX8_ask_21 : decode cX8_ask 21 = .ok (.ireturn, 1) := by decide +kernel
theorem dX8_maybeOf_0 : decode cX8_maybeOf 0 = .ok (.aload_n 0, 1) := by decide +kernel
theorem dX8_maybeOf_1 : decode cX8_maybeOf 1 = .ok (.getfield 37, 3) := by decide +kernel
theorem dX8_maybeOf_4 : decode cX8_maybeOf 4 = .ok (.iconst 1, 1) := by decide +kernel
theorem dX8_maybeOf_5 : decode cX8_maybeOf 5 = .ok (.iaload, 1) := by decide +kernel
theorem dX8_maybeOf_6 : decode cX8_maybeOf 6 = .ok (.istore 5, 2) := by decide +kernel
theorem dX8_maybeOf_8 : decode cX8_maybeOf 8 = .ok (.lconst 0, 1) := by decide +kernel
theorem dX8_maybeOf_9 : decode cX8_maybeOf 9 = .ok (.lstore 6, 2) := by decide +kernel
theorem dX8_maybeOf_11 : decode cX8_maybeOf 11 = .ok (.iconst 0, 1) := by decide +kernel
theorem dX8_maybeOf_12 : decode cX8_maybeOf 12 = .ok (.istore 8, 2) := by decide +kernel
theorem dX8_maybeOf_14 : decode cX8_maybeOf 14 = .ok (.iload 8, 2) := by decide +kernel
theorem dX8_maybeOf_16 : decode cX8_maybeOf 16 = .ok (.sipush 1024, 3) := by decide +kernel
theorem dX8_maybeOf_19 : decode cX8_maybeOf 19 = .ok (.if_icmp .ge 109, 3) := by decide +kernel
theorem dX8_maybeOf_22 : decode cX8_maybeOf 22 = .ok (.iload 8, 2) := by decide +kernel
theorem dX8_maybeOf_24 : decode cX8_maybeOf 24 = .ok (.iload 5, 2) := by decide +kernel
theorem dX8_maybeOf_26 : decode cX8_maybeOf 26 = .ok (.iconst (-1), 1) := by decide +kernel
theorem dX8_maybeOf_27 : decode cX8_maybeOf 27 = .ok (.ixor, 1) := by decide +kernel
theorem dX8_maybeOf_28 : decode cX8_maybeOf 28 = .ok (.iand, 1) := by decide +kernel
theorem dX8_maybeOf_29 : decode cX8_maybeOf 29 = .ok (.ifCond .ne 93, 3) := by decide +kernel
theorem dX8_maybeOf_32 : decode cX8_maybeOf 32 = .ok (.aload_n 0, 1) := by decide +kernel
theorem dX8_maybeOf_33 : decode cX8_maybeOf 33 = .ok (.getfield 37, 3) := by decide +kernel
theorem dX8_maybeOf_36 : decode cX8_maybeOf 36 = .ok (.iconst 1, 1) := by decide +kernel
theorem dX8_maybeOf_37 : decode cX8_maybeOf 37 = .ok (.iload 8, 2) := by decide +kernel
theorem dX8_maybeOf_39 : decode cX8_maybeOf 39 = .ok (.iastore, 1) := by decide +kernel
theorem dX8_maybeOf_40 : decode cX8_maybeOf 40 = .ok (.aload_n 0, 1) := by decide +kernel
theorem dX8_maybeOf_41 : decode cX8_maybeOf 41 = .ok (.invokevirtual 195, 3) := by decide +kernel
theorem dX8_maybeOf_44 : decode cX8_maybeOf 44 = .ok (.aload_n 0, 1) := by decide +kernel
theorem dX8_maybeOf_45 : decode cX8_maybeOf 45 = .ok (.iload_n 2, 1) := by decide +kernel
theorem dX8_maybeOf_46 : decode cX8_maybeOf 46 = .ok (.iload_n 3, 1) := by decide +kernel
theorem dX8_maybeOf_47 : decode cX8_maybeOf 47 = .ok (.invokevirtual 211, 3) := by decide +kernel
theorem dX8_maybeOf_50 : decode cX8_maybeOf 50 = .ok (.ifCond .eq 7, 3) := by decide +kernel
theorem dX8_maybeOf_53 : decode cX8_maybeOf 53 = .ok (.lconst 1, 1) := by decide +kernel
theorem dX8_maybeOf_54 : decode cX8_maybeOf 54 = .ok (.goto 4, 3) := by decide +kernel
theorem dX8_maybeOf_57 : decode cX8_maybeOf 57 = .ok (.lconst 0, 1) := by decide +kernel
theorem dX8_maybeOf_58 : decode cX8_maybeOf 58 = .ok (.lstore 9, 2) := by decide +kernel
theorem dX8_maybeOf_60 : decode cX8_maybeOf 60 = .ok (.iconst 0, 1) := by decide +kernel
theorem dX8_maybeOf_61 : decode cX8_maybeOf 61 = .ok (.istore 11, 2) := by decide +kernel
theorem dX8_maybeOf_63 : decode cX8_maybeOf 63 = .ok (.iload 11, 2) := by decide +kernel
theorem dX8_maybeOf_65 : decode cX8_maybeOf 65 = .ok (.bipush 10, 2) := by decide +kernel
theorem dX8_maybeOf_67 : decode cX8_maybeOf 67 = .ok (.if_icmp .ge 48, 3) := by decide +kernel
theorem dX8_maybeOf_70 : decode cX8_maybeOf 70 = .ok (.lload 9, 2) := by decide +kernel
theorem dX8_maybeOf_72 : decode cX8_maybeOf 72 = .ok (.iload 5, 2) := by decide +kernel
theorem dX8_maybeOf_74 : decode cX8_maybeOf 74 = .ok (.iload 11, 2) := by decide +kernel
theorem dX8_maybeOf_76 : decode cX8_maybeOf 76 = .ok (.invokestatic 153, 3) := by decide +kernel
theorem dX8_maybeOf_79 : decode cX8_maybeOf 79 = .ok (.ifCond .ne 7, 3) := by decide +kernel
theorem dX8_maybeOf_82 : decode cX8_maybeOf 82 = .ok (.lconst 1, 1) := by decide +kernel
theorem dX8_maybeOf_83 : decode cX8_maybeOf 83 = .ok (.goto 23, 3) := by decide +kernel
theorem dX8_maybeOf_86 : decode cX8_maybeOf 86 = .ok (.iload 8, 2) := by decide +kernel
theorem dX8_maybeOf_88 : decode cX8_maybeOf 88 = .ok (.iload 11, 2) := by decide +kernel
theorem dX8_maybeOf_90 : decode cX8_maybeOf 90 = .ok (.invokestatic 153, 3) := by decide +kernel
theorem dX8_maybeOf_93 : decode cX8_maybeOf 93 = .ok (.ifCond .eq 8, 3) := by decide +kernel
theorem dX8_maybeOf_96 : decode cX8_maybeOf 96 = .ok (.iload_n 1, 1) := by decide +kernel
theorem dX8_maybeOf_97 : decode cX8_maybeOf 97 = .ok (.i2l, 1) := by decide +kernel
theorem dX8_maybeOf_98 : decode cX8_maybeOf 98 = .ok (.goto 8, 3) := by decide +kernel
theorem dX8_maybeOf_101 : decode cX8_maybeOf 101 = .ok (.bipush 16, 2) := by decide +kernel
theorem dX8_maybeOf_103 : decode cX8_maybeOf 103 = .ok (.iload_n 1, 1) := by decide +kernel
theorem dX8_maybeOf_104 : decode cX8_maybeOf 104 = .ok (.isub, 1) := by decide +kernel
theorem dX8_maybeOf_105 : decode cX8_maybeOf 105 = .ok (.i2l, 1) := by decide +kernel
theorem dX8_maybeOf_106 : decode cX8_maybeOf 106 = .ok (.lmul, 1) := by decide +kernel
theorem dX8_maybeOf_107 : decode cX8_maybeOf 107 = .ok (.lstore 9, 2) := by decide +kernel
theorem dX8_maybeOf_109 : decode cX8_maybeOf 109 = .ok (.iinc 11 1, 3) := by decide +kernel
theorem dX8_maybeOf_112 : decode cX8_maybeOf 112 = .ok (.goto (-49), 3) := by decide +kernel
theorem dX8_maybeOf_115 : decode cX8_maybeOf 115 = .ok (.lload 6, 2) := by decide +kernel
theorem dX8_maybeOf_117 : decode cX8_maybeOf 117 = .ok (.lload 9, 2) := by decide +kernel
theorem dX8_maybeOf_119 : decode cX8_maybeOf 119 = .ok (.ladd, 1) := by decide +kernel
theorem dX8_maybeOf_120 : decode cX8_maybeOf 120 = .ok (.lstore 6, 2) := by decide +kernel
theorem dX8_maybeOf_122 : decode cX8_maybeOf 122 = .ok (.iinc 8 1, 3) := by decide +kernel
theorem dX8_maybeOf_125 : decode cX8_maybeOf 125 = .ok (.goto (-111), 3) := by decide +kernel
theorem dX8_maybeOf_128 : decode cX8_maybeOf 128 = .ok (.aload_n 0, 1) := by decide +kernel
theorem dX8_maybeOf_129 : decode cX8_maybeOf 129 = .ok (.getfield 37, 3) := by decide +kernel
theorem dX8_maybeOf_132 : decode cX8_maybeOf 132 = .ok (.iconst 1, 1) := by decide +kernel
theorem dX8_maybeOf_133 : decode cX8_maybeOf 133 = .ok (.iload 5, 2) := by decide +kernel
theorem dX8_maybeOf_135 : decode cX8_maybeOf 135 = .ok (.iastore, 1) := by decide +kernel
theorem dX8_maybeOf_136 : decode cX8_maybeOf 136 = .ok (.lload 6, 2) := by decide +kernel
theorem dX8_maybeOf_138 : decode cX8_maybeOf 138 = .ok (.lconst 1, 1) := by decide +kernel
theorem dX8_maybeOf_139 : decode cX8_maybeOf 139 = .ok (.iconst 4, 1) := by decide +kernel
theorem dX8_maybeOf_140 : decode cX8_maybeOf 140 = .ok (.iload 5, 2) := by decide +kernel
theorem dX8_maybeOf_142 : decode cX8_maybeOf 142 = .ok (.invokestatic 230, 3) := by decide +kernel
theorem dX8_maybeOf_145 : decode cX8_maybeOf 145 = .ok (.imul, 1) := by decide +kernel
theorem dX8_maybeOf_146 : decode cX8_maybeOf 146 = .ok (.lshl, 1) := by decide +kernel
theorem dX8_maybeOf_147 : decode cX8_maybeOf 147 = .ok (.iload 4, 2) := by decide +kernel
theorem dX8_maybeOf_149 : decode cX8_maybeOf 149 = .ok (.invokestatic 266, 3) := by decide +kernel
theorem dX8_maybeOf_152 : decode cX8_maybeOf 152 = .ok (.lreturn, 1) := by decide +kernel
theorem dX8_maybe_0 : decode cX8_maybe 0 = .ok (.aload_n 0, 1) := by decide +kernel
theorem dX8_maybe_1 : decode cX8_maybe 1 = .ok (.invokevirtual 198, 3) := by decide +kernel
theorem dX8_maybe_4 : decode cX8_maybe 4 = .ok (.iload_n 1, 1) := by decide +kernel
theorem dX8_maybe_5 : decode cX8_maybe 5 = .ok (.i2l, 1) := by decide +kernel
theorem dX8_maybe_6 : decode cX8_maybe 6 = .ok (.lconst 0, 1) := by decide +kernel
theorem dX8_maybe_7 : decode cX8_maybe 7 = .ok (.ldc2_w 270, 3) := by decide +kernel
theorem dX8_maybe_10 : decode cX8_maybe 10 = .ok (.invokestatic 76, 3) := by decide +kernel
theorem dX8_maybe_13 : decode cX8_maybe 13 = .ok (.ifCond .eq 38, 3) := by decide +kernel
theorem dX8_maybe_16 : decode cX8_maybe 16 = .ok (.iload_n 2, 1) := by decide +kernel
theorem dX8_maybe_17 : decode cX8_maybe 17 = .ok (.invokestatic 201, 3) := by decide +kernel
theorem dX8_maybe_20 : decode cX8_maybe 20 = .ok (.ifCond .eq 31, 3) := by decide +kernel
theorem dX8_maybe_23 : decode cX8_maybe 23 = .ok (.aload_n 0, 1) := by decide +kernel
theorem dX8_maybe_24 : decode cX8_maybe 24 = .ok (.iload_n 3, 1) := by decide +kernel
theorem dX8_maybe_25 : decode cX8_maybe 25 = .ok (.invokevirtual 142, 3) := by decide +kernel
theorem dX8_maybe_28 : decode cX8_maybe 28 = .ok (.ifCond .eq 23, 3) := by decide +kernel
theorem dX8_maybe_31 : decode cX8_maybe 31 = .ok (.iload 4, 2) := by decide +kernel
theorem dX8_maybe_33 : decode cX8_maybe 33 = .ok (.invokestatic 104, 3) := by decide +kernel
theorem dX8_maybe_36 : decode cX8_maybe 36 = .ok (.ifCond .eq 15, 3) := by decide +kernel
theorem dX8_maybe_39 : decode cX8_maybe 39 = .ok (.aload_n 0, 1) := by decide +kernel
theorem dX8_maybe_40 : decode cX8_maybe 40 = .ok (.iload_n 1, 1) := by decide +kernel
theorem dX8_maybe_41 : decode cX8_maybe 41 = .ok (.iload_n 2, 1) := by decide +kernel
theorem dX8_maybe_42 : decode cX8_maybe 42 = .ok (.iload_n 3, 1) := by decide +kernel
theorem dX8_maybe_43 : decode cX8_maybe 43 = .ok (.iload 4, 2) := by decide +kernel
theorem dX8_maybe_45 : decode cX8_maybe 45 = .ok (.invokevirtual 272, 3) := by decide +kernel
theorem dX8_maybe_48 : decode cX8_maybe 48 = .ok (.goto 8, 3) := by decide +kernel
theorem dX8_maybe_51 : decode cX8_maybe 51 = .ok (.bipush (-2), 2) := by decide +kernel
theorem dX8_maybe_53 : decode cX8_maybe 53 = .ok (.invokestatic 276, 3) := by decide +kernel
theorem dX8_maybe_56 : decode cX8_maybe 56 = .ok (.lreturn, 1) := by decide +kernel
theorem dX8_lot_0 : decode cX8_lot 0 = .ok (.aload_n 0, 1) := by decide +kernel
theorem dX8_lot_1 : decode cX8_lot 1 = .ok (.ldc_w 280, 3) := by decide +kernel
theorem dX8_lot_4 : decode cX8_lot 4 = .ok (.aload_n 0, 1) := by decide +kernel
theorem dX8_lot_5 : decode cX8_lot 5 = .ok (.getfield 281, 3) := by decide +kernel
theorem dX8_lot_8 : decode cX8_lot 8 = .ok (.imul, 1) := by decide +kernel
theorem dX8_lot_9 : decode cX8_lot 9 = .ok (.sipush 12345, 3) := by decide +kernel
theorem dX8_lot_12 : decode cX8_lot 12 = .ok (.iadd, 1) := by decide +kernel
theorem dX8_lot_13 : decode cX8_lot 13 = .ok (.putfield 281, 3) := by decide +kernel
theorem dX8_lot_16 : decode cX8_lot 16 = .ok (.aload_n 0, 1) := by decide +kernel
theorem dX8_lot_17 : decode cX8_lot 17 = .ok (.getfield 281, 3) := by decide +kernel
theorem dX8_lot_20 : decode cX8_lot 20 = .ok (.bipush 16, 2) := by decide +kernel
theorem dX8_lot_22 : decode cX8_lot 22 = .ok (.iushr, 1) := by decide +kernel
theorem dX8_lot_23 : decode cX8_lot 23 = .ok (.iload_n 1, 1) := by decide +kernel
theorem dX8_lot_24 : decode cX8_lot 24 = .ok (.irem, 1) := by decide +kernel
theorem dX8_lot_25 : decode cX8_lot 25 = .ok (.ireturn, 1) := by decide +kernel
theorem dX8_depotOf_0 : decode cX8_depotOf 0 = .ok (.aload_n 0, 1) := by decide +kernel
theorem dX8_depotOf_1 : decode cX8_depotOf 1 = .ok (.iload_n 1, 1) := by decide +kernel
theorem dX8_depotOf_2 : decode cX8_depotOf 2 = .ok (.putfield 281, 3) := by decide +kernel
theorem dX8_depotOf_5 : decode cX8_depotOf 5 = .ok (.iconst 0, 1) := by decide +kernel
theorem dX8_depotOf_6 : decode cX8_depotOf 6 = .ok (.istore 4, 2) := by decide +kernel
theorem dX8_depotOf_8 : decode cX8_depotOf 8 = .ok (.iload 4, 2) := by decide +kernel
theorem dX8_depotOf_10 : decode cX8_depotOf 10 = .ok (.iload_n 2, 1) := by decide +kernel
theorem dX8_depotOf_11 : decode cX8_depotOf 11 = .ok (.if_icmp .ge 22, 3) := by decide +kernel
theorem dX8_depotOf_14 : decode cX8_depotOf 14 = .ok (.aload_n 0, 1) := by decide +kernel
theorem dX8_depotOf_15 : decode cX8_depotOf 15 = .ok (.getfield 31, 3) := by decide +kernel
theorem dX8_depotOf_18 : decode cX8_depotOf 18 = .ok (.iload 4, 2) := by decide +kernel
theorem dX8_depotOf_20 : decode cX8_depotOf 20 = .ok (.aload_n 0, 1) := by decide +kernel
theorem dX8_depotOf_21 : decode cX8_depotOf 21 = .ok (.bipush 8, 2) := by decide +kernel
theorem dX8_depotOf_23 : decode cX8_depotOf 23 = .ok (.invokevirtual 284, 3) := by decide +kernel
theorem dX8_depotOf_26 : decode cX8_depotOf 26 = .ok (.iastore, 1) := by decide +kernel
theorem dX8_depotOf_27 : decode cX8_depotOf 27 = .ok (.iinc 4 1, 3) := by decide +kernel
theorem dX8_depotOf_30 : decode cX8_depotOf 30 = .ok (.goto (-22), 3) := by decide +kernel
theorem dX8_depotOf_33 : decode cX8_depotOf 33 = .ok (.aload_n 0, 1) := by decide +kernel
theorem dX8_depotOf_34 : decode cX8_depotOf 34 = .ok (.iload_n 2, 1) := by decide +kernel
theorem dX8_depotOf_35 : decode cX8_depotOf 35 = .ok (.putfield 126, 3) := by decide +kernel
theorem dX8_depotOf_38 : decode cX8_depotOf 38 = .ok (.aload_n 0, 1) := by decide +kernel
theorem dX8_depotOf_39 : decode cX8_depotOf 39 = .ok (.invokevirtual 195, 3) := by decide +kernel
theorem dX8_depotOf_42 : decode cX8_depotOf 42 = .ok (.aload_n 0, 1) := by decide +kernel
theorem dX8_depotOf_43 : decode cX8_depotOf 43 = .ok (.invokevirtual 137, 3) := by decide +kernel
theorem dX8_depotOf_46 : decode cX8_depotOf 46 = .ok (.pop, 1) := by decide +kernel
theorem dX8_depotOf_47 : decode cX8_depotOf 47 = .ok (.iload_n 3, 1) := by decide +kernel
theorem dX8_depotOf_48 : decode cX8_depotOf 48 = .ok (.ifCond .ne 15, 3) := by decide +kernel
theorem dX8_depotOf_51 : decode cX8_depotOf 51 = .ok (.aload_n 0, 1) := by decide +kernel
theorem dX8_depotOf_52 : decode cX8_depotOf 52 = .ok (.bipush 9, 2) := by decide +kernel
theorem dX8_depotOf_54 : decode cX8_depotOf 54 = .ok (.invokevirtual 217, 3) := by decide +kernel
theorem dX8_depotOf_57 : decode cX8_depotOf 57 = .ok (.invokestatic 230, 3) := by decide +kernel
theorem dX8_depotOf_60 : decode cX8_depotOf 60 = .ok (.goto 10, 3) := by decide +kernel
theorem dX8_depotOf_63 : decode cX8_depotOf 63 = .ok (.aload_n 0, 1) := by decide +kernel
theorem dX8_depotOf_64 : decode cX8_depotOf 64 = .ok (.getfield 55, 3) := by decide +kernel
theorem dX8_depotOf_67 : decode cX8_depotOf 67 = .ok (.bipush 9, 2) := by decide +kernel
theorem dX8_depotOf_69 : decode cX8_depotOf 69 = .ok (.iaload, 1) := by decide +kernel
theorem dX8_depotOf_70 : decode cX8_depotOf 70 = .ok (.ireturn, 1) := by decide +kernel
theorem dX8_depot_0 : decode cX8_depot 0 = .ok (.aload_n 0, 1) := by decide +kernel
theorem dX8_depot_1 : decode cX8_depot 1 = .ok (.invokevirtual 198, 3) := by decide +kernel
theorem dX8_depot_4 : decode cX8_depot 4 = .ok (.iload_n 2, 1) := by decide +kernel
theorem dX8_depot_5 : decode cX8_depot 5 = .ok (.i2l, 1) := by decide +kernel
theorem dX8_depot_6 : decode cX8_depot 6 = .ok (.lconst 0, 1) := by decide +kernel
theorem dX8_depot_7 : decode cX8_depot 7 = .ok (.ldc2_w 270, 3) := by decide +kernel
theorem dX8_depot_10 : decode cX8_depot 10 = .ok (.invokestatic 76, 3) := by decide +kernel
theorem dX8_depot_13 : decode cX8_depot 13 = .ok (.ifCond .eq 20, 3) := by decide +kernel
theorem dX8_depot_16 : decode cX8_depot 16 = .ok (.iload_n 3, 1) := by decide +kernel
theorem dX8_depot_17 : decode cX8_depot 17 = .ok (.invokestatic 104, 3) := by decide +kernel
theorem dX8_depot_20 : decode cX8_depot 20 = .ok (.ifCond .eq 13, 3) := by decide +kernel
theorem dX8_depot_23 : decode cX8_depot 23 = .ok (.aload_n 0, 1) := by decide +kernel
theorem dX8_depot_24 : decode cX8_depot 24 = .ok (.iload_n 1, 1) := by decide +kernel
theorem dX8_depot_25 : decode cX8_depot 25 = .ok (.iload_n 2, 1) := by decide +kernel
theorem dX8_depot_26 : decode cX8_depot 26 = .ok (.iload_n 3, 1) := by decide +kernel
theorem dX8_depot_27 : decode cX8_depot 27 = .ok (.invokevirtual 287, 3) := by decide +kernel
theorem dX8_depot_30 : decode cX8_depot 30 = .ok (.goto 5, 3) := by decide +kernel
theorem dX8_depot_33 : decode cX8_depot 33 = .ok (.bipush (-2), 2) := by decide +kernel
theorem dX8_depot_35 : decode cX8_depot 35 = .ok (.ireturn, 1) := by decide +kernel
theorem dX8_write_0 : decode cX8_write 0 = .ok (.iload_n 1, 1) := by decide +kernel
theorem dX8_write_1 : decode cX8_write 1 = .ok (.invokestatic 201, 3) := by decide +kernel
theorem dX8_write_4 : decode cX8_write 4 = .ok (.ifCond .eq 10, 3) := by decide +kernel
theorem dX8_write_7 : decode cX8_write 7 = .ok (.iload_n 2, 1) := by decide +kernel
theorem dX8_write_8 : decode cX8_write 8 = .ok (.invokestatic 85, 3) := by decide +kernel
theorem dX8_write_11 : decode cX8_write 11 = .ok (.ifCond .ne 6, 3) := by decide +kernel
theorem dX8_write_14 : decode cX8_write 14 = .ok (.bipush (-2), 2) := by decide +kernel
theorem dX8_write_16 : decode cX8_write 16 = .ok (.ireturn, 1) := by decide +kernel
theorem dX8_write_17 : decode cX8_write 17 = .ok (.aload_n 0, 1) := by decide +kernel
theorem dX8_write_18 : decode cX8_write 18 = .ok (.getfield 7, 3) := by decide +kernel
theorem dX8_write_21 : decode cX8_write 21 = .ok (.iload_n 2, 1) := by decide +kernel
theorem dX8_write_22 : decode cX8_write 22 = .ok (.iaload, 1) := by decide +kernel
theorem dX8_write_23 : decode cX8_write 23 = .ok (.ifCond .ge 9, 3) := by decide +kernel
theorem dX8_write_26 : decode cX8_write 26 = .ok (.aload_n 0, 1) := by decide +kernel
theorem dX8_write_27 : decode cX8_write 27 = .ok (.iconst 1, 1) := by decide +kernel
theorem dX8_write_28 : decode cX8_write 28 = .ok (.invokevirtual 91, 3) := by decide +kernel
theorem dX8_write_31 : decode cX8_write 31 = .ok (.ireturn, 1) := by decide +kernel
theorem dX8_write_32 : decode cX8_write 32 = .ok (.aload_n 0, 1) := by decide +kernel
theorem dX8_write_33 : decode cX8_write 33 = .ok (.invokevirtual 198, 3) := by decide +kernel
theorem dX8_write_36 : decode cX8_write 36 = .ok (.aload_n 0, 1) := by decide +kernel
theorem dX8_write_37 : decode cX8_write 37 = .ok (.getfield 13, 3) := by decide +kernel
theorem dX8_write_40 : decode cX8_write 40 = .ok (.iload_n 2, 1) := by decide +kernel
theorem dX8_write_41 : decode cX8_write 41 = .ok (.iaload, 1) := by decide +kernel
theorem dX8_write_42 : decode cX8_write 42 = .ok (.aload_n 0, 1) := by decide +kernel
theorem dX8_write_43 : decode cX8_write 43 = .ok (.getfield 55, 3) := by decide +kernel
theorem dX8_write_46 : decode cX8_write 46 = .ok (.iload_n 1, 1) := by decide +kernel
theorem dX8_write_47 : decode cX8_write 47 = .ok (.iaload, 1) := by decide +kernel
theorem dX8_write_48 : decode cX8_write 48 = .ok (.invokestatic 290, 3) := by decide +kernel
theorem dX8_write_51 : decode cX8_write 51 = .ok (.istore_n 3, 1) := by decide +kernel
theorem dX8_write_52 : decode cX8_write 52 = .ok (.iconst 0, 1) := by decide +kernel
theorem dX8_write_53 : decode cX8_write 53 = .ok (.istore 4, 2) := by decide +kernel
theorem dX8_write_55 : decode cX8_write 55 = .ok (.iload 4, 2) := by decide +kernel
theorem dX8_write_57 : decode cX8_write 57 = .ok (.iload_n 3, 1) := by decide +kernel
theorem dX8_write_58 : decode cX8_write 58 = .ok (.if_icmp .ge 42, 3) := by decide +kernel
theorem dX8_write_61 : decode cX8_write 61 = .ok (.aload_n 0, 1) := by decide +kernel
theorem dX8_write_62 : decode cX8_write 62 = .ok (.getfield 16, 3) := by decide +kernel
theorem dX8_write_65 : decode cX8_write 65 = .ok (.bipush 60, 2) := by decide +kernel
theorem dX8_write_67 : decode cX8_write 67 = .ok (.iload_n 2, 1) := by decide +kernel
theorem dX8_write_68 : decode cX8_write 68 = .ok (.imul, 1) := by decide +kernel
theorem dX8_write_69 : decode cX8_write 69 = .ok (.iload 4, 2) := by decide +kernel
theorem dX8_write_71 : decode cX8_write 71 = .ok (.iadd, 1) := by decide +kernel
theorem dX8_write_72 : decode cX8_write 72 = .ok (.aload_n 0, 1) := by decide +kernel
theorem dX8_write_73 : decode cX8_write 73 = .ok (.getfield 7, 3) := by decide +kernel
theorem dX8_write_76 : decode cX8_write 76 = .ok (.iload_n 2, 1) := by decide +kernel
theorem dX8_write_77 : decode cX8_write 77 = .ok (.iaload, 1) := by decide +kernel
theorem dX8_write_78 : decode cX8_write 78 = .ok (.aload_n 0, 1) := by decide +kernel
theorem dX8_write_79 : decode cX8_write 79 = .ok (.getfield 58, 3) := by decide +kernel
theorem dX8_write_82 : decode cX8_write 82 = .ok (.bipush 29, 2) := by decide +kernel
theorem dX8_write_84 : decode cX8_write 84 = .ok (.iload_n 1, 1) := by decide +kernel
theorem dX8_write_85 : decode cX8_write 85 = .ok (.imul, 1) := by decide +kernel
theorem dX8_write_86 : decode cX8_write 86 = .ok (.iload 4, 2) := by decide +kernel
theorem dX8_write_88 : decode cX8_write 88 = .ok (.iadd, 1) := by decide +kernel
theorem dX8_write_89 : decode cX8_write 89 = .ok (.iaload, 1) := by decide +kernel
theorem dX8_write_90 : decode cX8_write 90 = .ok (.invokestatic 99, 3) := by decide +kernel
theorem dX8_write_93 : decode cX8_write 93 = .ok (.iastore, 1) := by decide +kernel
theorem dX8_write_94 : decode cX8_write 94 = .ok (.iinc 4 1, 3) := by decide +kernel
theorem dX8_write_97 : decode cX8_write 97 = .ok (.goto (-42), 3) := by decide +kernel
theorem dX8_write_100 : decode cX8_write 100 = .ok (.iload_n 3, 1) := by decide +kernel
theorem dX8_write_101 : decode cX8_write 101 = .ok (.ireturn, 1) := by decide +kernel
theorem dX8_count_0 : decode cX8_count 0 = .ok (.aload_n 0, 1) := by decide +kernel
theorem dX8_count_1 : decode cX8_count 1 = .ok (.invokevirtual 198, 3) := by decide +kernel
theorem dX8_count_4 : decode cX8_count 4 = .ok (.iload_n 1, 1) := by decide +kernel
theorem dX8_count_5 : decode cX8_count 5 = .ok (.tableswitch 102 0 8 #[51, 56, 61, 61, 70, 75, 85, 92, 97], 51) := by decide +kernel
theorem dX8_count_56 : decode cX8_count 56 = .ok (.aload_n 0, 1) := by decide +kernel
theorem dX8_count_57 : decode cX8_count 57 = .ok (.getfield 120, 3) := by decide +kernel
theorem dX8_count_60 : decode cX8_count 60 = .ok (.ireturn, 1) := by decide +kernel
theorem dX8_count_61 : decode cX8_count 61 = .ok (.aload_n 0, 1) := by decide +kernel
theorem dX8_count_62 : decode cX8_count 62 = .ok (.getfield 126, 3) := by decide +kernel
theorem dX8_count_65 : decode cX8_count 65 = .ok (.ireturn, 1) := by decide +kernel
theorem dX8_count_66 : decode cX8_count 66 = .ok (.aload_n 0, 1) := by decide +kernel
theorem dX8_count_67 : decode cX8_count 67 = .ok (.getfield 25, 3) := by decide +kernel
theorem dX8_count_70 : decode cX8_count 70 = .ok (.iload_n 1, 1) := by decide +kernel
theorem dX8_count_71 : decode cX8_count 71 = .ok (.iconst 2, 1) := by decide +kernel
theorem dX8_count_72 : decode cX8_count 72 = .ok (.isub, 1) := by decide +kernel
theorem dX8_count_73 : decode cX8_count 73 = .ok (.iaload, 1) := by decide +kernel
theorem dX8_count_74 : decode cX8_count 74 = .ok (.ireturn, 1) := by decide +kernel
theorem dX8_count_75 : decode cX8_count 75 = .ok (.aload_n 0, 1) := by decide +kernel
theorem dX8_count_76 : decode cX8_count 76 = .ok (.getfield 180, 3) := by decide +kernel
theorem dX8_count_79 : decode cX8_count 79 = .ok (.ireturn, 1) := by decide +kernel
theorem dX8_count_80 : decode cX8_count 80 = .ok (.aload_n 0, 1) := by decide +kernel
theorem dX8_count_81 : decode cX8_count 81 = .ok (.bipush 9, 2) := by decide +kernel
theorem dX8_count_83 : decode cX8_count 83 = .ok (.invokevirtual 217, 3) := by decide +kernel
theorem dX8_count_86 : decode cX8_count 86 = .ok (.invokestatic 230, 3) := by decide +kernel
theorem dX8_count_89 : decode cX8_count 89 = .ok (.ireturn, 1) := by decide +kernel
theorem dX8_count_90 : decode cX8_count 90 = .ok (.aload_n 0, 1) := by decide +kernel
theorem dX8_count_91 : decode cX8_count 91 = .ok (.getfield 37, 3) := by decide +kernel
theorem dX8_count_94 : decode cX8_count 94 = .ok (.iconst 1, 1) := by decide +kernel
theorem dX8_count_95 : decode cX8_count 95 = .ok (.iaload, 1) := by decide +kernel
theorem dX8_count_96 : decode cX8_count 96 = .ok (.ireturn, 1) := by decide +kernel
theorem dX8_count_97 : decode cX8_count 97 = .ok (.aload_n 0, 1) := by decide +kernel
theorem dX8_count_98 : decode cX8_count 98 = .ok (.getfield 247, 3) := by decide +kernel
theorem dX8_count_101 : decode cX8_count 101 = .ok (.ireturn, 1) := by decide +kernel
theorem dX8_count_102 : decode cX8_count 102 = .ok (.aload_n 0, 1) := by decide +kernel
theorem dX8_count_103 : decode cX8_count 103 = .ok (.getfield 80, 3) := by decide +kernel
theorem dX8_count_106 : decode cX8_count 106 = .ok (.ireturn, 1) := by decide +kernel
theorem dX8_count_107 : decode cX8_count 107 = .ok (.bipush (-2), 2) := by decide +kernel
theorem dX8_count_109 : decode cX8_count 109 = .ok (.ireturn, 1) := by decide +kernel
theorem dX8_tellsRider_0 : decode cX8_tellsRider 0 = .ok (.aload_n 0, 1) := by decide +kernel
theorem dX8_tellsRider_1 : decode cX8_tellsRider 1 = .ok (.invokevirtual 195, 3) := by decide +kernel
theorem dX8_tellsRider_4 : decode cX8_tellsRider 4 = .ok (.lload_n 1, 1) := by decide +kernel
theorem dX8_tellsRider_5 : decode cX8_tellsRider 5 = .ok (.lstore 4, 2) := by decide +kernel
theorem dX8_tellsRider_7 : decode cX8_tellsRider 7 = .ok (.iconst 0, 1) := by decide +kernel
theorem dX8_tellsRider_8 : decode cX8_tellsRider 8 = .ok (.istore 6, 2) := by decide +kernel
theorem dX8_tellsRider_10 : decode cX8_tellsRider 10 = .ok (.iload 6, 2) := by decide +kernel
theorem dX8_tellsRider_12 : decode cX8_tellsRider 12 = .ok (.iconst 4, 1) := by decide +kernel
theorem dX8_tellsRider_13 : decode cX8_tellsRider 13 = .ok (.if_icmp .ge 30, 3) := by decide +kernel
theorem dX8_tellsRider_16 : decode cX8_tellsRider 16 = .ok (.ldc2_w 293, 3) := by decide +kernel
theorem dX8_tellsRider_19 : decode cX8_tellsRider 19 = .ok (.lload 4, 2) := by decide +kernel
theorem dX8_tellsRider_21 : decode cX8_tellsRider 21 = .ok (.lmul, 1) := by decide +kernel
theorem dX8_tellsRider_22 : decode cX8_tellsRider 22 = .ok (.aload_n 0, 1) := by decide +kernel
theorem dX8_tellsRider_23 : decode cX8_tellsRider 23 = .ok (.getfield 28, 3) := by decide +kernel
theorem dX8_tellsRider_26 : decode cX8_tellsRider 26 = .ok (.iconst 4, 1) := by decide +kernel
theorem dX8_tellsRider_27 : decode cX8_tellsRider 27 = .ok (.iload_n 3, 1) := by decide +kernel
theorem dX8_tellsRider_28 : decode cX8_tellsRider 28 = .ok (.imul, 1) := by decide +kernel
theorem dX8_tellsRider_29 : decode cX8_tellsRider 29 = .ok (.iload 6, 2) := by decide +kernel
theorem dX8_tellsRider_31 : decode cX8_tellsRider 31 = .ok (.iadd, 1) := by decide +kernel
theorem dX8_tellsRider_32 : decode cX8_tellsRider 32 = .ok (.iaload, 1) := by decide +kernel
theorem dX8_tellsRider_33 : decode cX8_tellsRider 33 = .ok (.i2l, 1) := by decide +kernel
theorem dX8_tellsRider_34 : decode cX8_tellsRider 34 = .ok (.ladd, 1) := by decide +kernel
theorem dX8_tellsRider_35 : decode cX8_tellsRider 35 = .ok (.lstore 4, 2) := by decide +kernel
theorem dX8_tellsRider_37 : decode cX8_tellsRider 37 = .ok (.iinc 6 1, 3) := by decide +kernel
theorem dX8_tellsRider_40 : decode cX8_tellsRider 40 = .ok (.goto (-30), 3) := by decide +kernel
theorem dX8_tellsRider_43 : decode cX8_tellsRider 43 = .ok (.ldc2_w 293, 3) := by decide +kernel
theorem dX8_tellsRider_46 : decode cX8_tellsRider 46 = .ok (.lload 4, 2) := by decide +kernel
theorem dX8_tellsRider_48 : decode cX8_tellsRider 48 = .ok (.lmul, 1) := by decide +kernel
theorem dX8_tellsRider_49 : decode cX8_tellsRider 49 = .ok (.aload_n 0, 1) := by decide +kernel
theorem dX8_tellsRider_50 : decode cX8_tellsRider 50 = .ok (.getfield 49, 3) := by decide +kernel
theorem dX8_tellsRider_53 : decode cX8_tellsRider 53 = .ok (.iload_n 3, 1) := by decide +kernel
theorem dX8_tellsRider_54 : decode cX8_tellsRider 54 = .ok (.iaload, 1) := by decide +kernel
theorem dX8_tellsRider_55 : decode cX8_tellsRider 55 = .ok (.i2l, 1) := by decide +kernel
theorem dX8_tellsRider_56 : decode cX8_tellsRider 56 = .ok (.ladd, 1) := by decide +kernel
theorem dX8_tellsRider_57 : decode cX8_tellsRider 57 = .ok (.lstore 4, 2) := by decide +kernel
theorem dX8_tellsRider_59 : decode cX8_tellsRider 59 = .ok (.ldc2_w 293, 3) := by decide +kernel
theorem dX8_tellsRider_62 : decode cX8_tellsRider 62 = .ok (.lload 4, 2) := by decide +kernel
theorem dX8_tellsRider_64 : decode cX8_tellsRider 64 = .ok (.lmul, 1) := by decide +kernel
theorem dX8_tellsRider_65 : decode cX8_tellsRider 65 = .ok (.aload_n 0, 1) := by decide +kernel
theorem dX8_tellsRider_66 : decode cX8_tellsRider 66 = .ok (.getfield 49, 3) := by decide +kernel
theorem dX8_tellsRider_69 : decode cX8_tellsRider 69 = .ok (.bipush 72, 2) := by decide +kernel
theorem dX8_tellsRider_71 : decode cX8_tellsRider 71 = .ok (.iload_n 3, 1) := by decide +kernel
theorem dX8_tellsRider_72 : decode cX8_tellsRider 72 = .ok (.iadd, 1) := by decide +kernel
theorem dX8_tellsRider_73 : decode cX8_tellsRider 73 = .ok (.iaload, 1) := by decide +kernel
theorem dX8_tellsRider_74 : decode cX8_tellsRider 74 = .ok (.i2l, 1) := by decide +kernel
theorem dX8_tellsRider_75 : decode cX8_tellsRider 75 = .ok (.ladd, 1) := by decide +kernel
theorem dX8_tellsRider_76 : decode cX8_tellsRider 76 = .ok (.lstore 4, 2) := by decide +kernel
theorem dX8_tellsRider_78 : decode cX8_tellsRider 78 = .ok (.ldc2_w 293, 3) := by decide +kernel
theorem dX8_tellsRider_81 : decode cX8_tellsRider 81 = .ok (.lload 4, 2) := by decide +kernel
theorem dX8_tellsRider_83 : decode cX8_tellsRider 83 = .ok (.lmul, 1) := by decide +kernel
theorem dX8_tellsRider_84 : decode cX8_tellsRider 84 = .ok (.aload_n 0, 1) := by decide +kernel
theorem dX8_tellsRider_85 : decode cX8_tellsRider 85 = .ok (.getfield 52, 3) := by decide +kernel
theorem dX8_tellsRider_88 : decode cX8_tellsRider 88 = .ok (.bipush 72, 2) := by decide +kernel
theorem dX8_tellsRider_90 : decode cX8_tellsRider 90 = .ok (.iload_n 3, 1) := by decide +kernel
theorem dX8_tellsRider_91 : decode cX8_tellsRider 91 = .ok (.iadd, 1) := by decide +kernel
theorem dX8_tellsRider_92 : decode cX8_tellsRider 92 = .ok (.iaload, 1) := by decide +kernel
theorem dX8_tellsRider_93 : decode cX8_tellsRider 93 = .ok (.i2l, 1) := by decide +kernel
theorem dX8_tellsRider_94 : decode cX8_tellsRider 94 = .ok (.ladd, 1) := by decide +kernel
theorem dX8_tellsRider_95 : decode cX8_tellsRider 95 = .ok (.lstore 4, 2) := by decide +kernel
theorem dX8_tellsRider_97 : decode cX8_tellsRider 97 = .ok (.ldc2_w 293, 3) := by decide +kernel
theorem dX8_tellsRider_100 : decode cX8_tellsRider 100 = .ok (.lload 4, 2) := by decide +kernel
theorem dX8_tellsRider_102 : decode cX8_tellsRider 102 = .ok (.lmul, 1) := by decide +kernel
theorem dX8_tellsRider_103 : decode cX8_tellsRider 103 = .ok (.aload_n 0, 1) := by decide +kernel
theorem dX8_tellsRider_104 : decode cX8_tellsRider 104 = .ok (.iload_n 3, 1) := by decide +kernel
theorem dX8_tellsRider_105 : decode cX8_tellsRider 105 = .ok (.invokevirtual 214, 3) := by decide +kernel
theorem dX8_tellsRider_108 : decode cX8_tellsRider 108 = .ok (.i2l, 1) := by decide +kernel
theorem dX8_tellsRider_109 : decode cX8_tellsRider 109 = .ok (.ladd, 1) := by decide +kernel
theorem dX8_tellsRider_110 : decode cX8_tellsRider 110 = .ok (.lstore 4, 2) := by decide +kernel
theorem dX8_tellsRider_112 : decode cX8_tellsRider 112 = .ok (.ldc2_w 293, 3) := by decide +kernel
theorem dX8_tellsRider_115 : decode cX8_tellsRider 115 = .ok (.lload 4, 2) := by decide +kernel
theorem dX8_tellsRider_117 : decode cX8_tellsRider 117 = .ok (.lmul, 1) := by decide +kernel
theorem dX8_tellsRider_118 : decode cX8_tellsRider 118 = .ok (.aload_n 0, 1) := by decide +kernel
theorem dX8_tellsRider_119 : decode cX8_tellsRider 119 = .ok (.iload_n 3, 1) := by decide +kernel
theorem dX8_tellsRider_120 : decode cX8_tellsRider 120 = .ok (.iconst 0, 1) := by decide +kernel
theorem dX8_tellsRider_121 : decode cX8_tellsRider 121 = .ok (.invokevirtual 233, 3) := by decide +kernel
theorem dX8_tellsRider_124 : decode cX8_tellsRider 124 = .ok (.i2l, 1) := by decide +kernel
theorem dX8_tellsRider_125 : decode cX8_tellsRider 125 = .ok (.ladd, 1) := by decide +kernel
theorem dX8_tellsRider_126 : decode cX8_tellsRider 126 = .ok (.lstore 4, 2) := by decide +kernel
theorem dX8_tellsRider_128 : decode cX8_tellsRider 128 = .ok (.ldc2_w 293, 3) := by decide +kernel
theorem dX8_tellsRider_131 : decode cX8_tellsRider 131 = .ok (.lload 4, 2) := by decide +kernel
theorem dX8_tellsRider_133 : decode cX8_tellsRider 133 = .ok (.lmul, 1) := by decide +kernel
theorem dX8_tellsRider_134 : decode cX8_tellsRider 134 = .ok (.aload_n 0, 1) := by decide +kernel
theorem dX8_tellsRider_135 : decode cX8_tellsRider 135 = .ok (.iload_n 3, 1) := by decide +kernel
theorem dX8_tellsRider_136 : decode cX8_tellsRider 136 = .ok (.iconst 1, 1) := by decide +kernel
theorem dX8_tellsRider_137 : decode cX8_tellsRider 137 = .ok (.invokevirtual 233, 3) := by decide +kernel
theorem dX8_tellsRider_140 : decode cX8_tellsRider 140 = .ok (.i2l, 1) := by decide +kernel
theorem dX8_tellsRider_141 : decode cX8_tellsRider 141 = .ok (.ladd, 1) := by decide +kernel
theorem dX8_tellsRider_142 : decode cX8_tellsRider 142 = .ok (.lstore 4, 2) := by decide +kernel
theorem dX8_tellsRider_144 : decode cX8_tellsRider 144 = .ok (.ldc2_w 293, 3) := by decide +kernel
theorem dX8_tellsRider_147 : decode cX8_tellsRider 147 = .ok (.lload 4, 2) := by decide +kernel
theorem dX8_tellsRider_149 : decode cX8_tellsRider 149 = .ok (.lmul, 1) := by decide +kernel
theorem dX8_tellsRider_150 : decode cX8_tellsRider 150 = .ok (.aload_n 0, 1) := by decide +kernel
theorem dX8_tellsRider_151 : decode cX8_tellsRider 151 = .ok (.iload_n 3, 1) := by decide +kernel
theorem dX8_tellsRider_152 : decode cX8_tellsRider 152 = .ok (.invokevirtual 257, 3) := by decide +kernel
theorem dX8_tellsRider_155 : decode cX8_tellsRider 155 = .ok (.i2l, 1) := by decide +kernel
theorem dX8_tellsRider_156 : decode cX8_tellsRider 156 = .ok (.ladd, 1) := by decide +kernel
theorem dX8_tellsRider_157 : decode cX8_tellsRider 157 = .ok (.lstore 4, 2) := by decide +kernel
theorem dX8_tellsRider_159 : decode cX8_tellsRider 159 = .ok (.ldc2_w 293, 3) := by decide +kernel
theorem dX8_tellsRider_162 : decode cX8_tellsRider 162 = .ok (.lload 4, 2) := by decide +kernel
theorem dX8_tellsRider_164 : decode cX8_tellsRider 164 = .ok (.lmul, 1) := by decide +kernel
theorem dX8_tellsRider_165 : decode cX8_tellsRider 165 = .ok (.aload_n 0, 1) := by decide +kernel
theorem dX8_tellsRider_166 : decode cX8_tellsRider 166 = .ok (.iconst 5, 1) := by decide +kernel
theorem dX8_tellsRider_167 : decode cX8_tellsRider 167 = .ok (.iconst 3, 1) := by decide +kernel
theorem dX8_tellsRider_168 : decode cX8_tellsRider 168 = .ok (.iload_n 3, 1) := by decide +kernel
theorem dX8_tellsRider_169 : decode cX8_tellsRider 169 = .ok (.iconst 0, 1) := by decide +kernel
theorem dX8_tellsRider_170 : decode cX8_tellsRider 170 = .ok (.invokevirtual 272, 3) := by decide +kernel
theorem dX8_tellsRider_173 : decode cX8_tellsRider 173 = .ok (.ladd, 1) := by decide +kernel
theorem dX8_tellsRider_174 : decode cX8_tellsRider 174 = .ok (.lstore 4, 2) := by decide +kernel
theorem dX8_tellsRider_176 : decode cX8_tellsRider 176 = .ok (.ldc2_w 293, 3) := by decide +kernel
theorem dX8_tellsRider_179 : decode cX8_tellsRider 179 = .ok (.lload 4, 2) := by decide +kernel
theorem dX8_tellsRider_181 : decode cX8_tellsRider 181 = .ok (.lmul, 1) := by decide +kernel
theorem dX8_tellsRider_182 : decode cX8_tellsRider 182 = .ok (.aload_n 0, 1) := by decide +kernel
theorem dX8_tellsRider_183 : decode cX8_tellsRider 183 = .ok (.iconst 5, 1) := by decide +kernel
theorem dX8_tellsRider_184 : decode cX8_tellsRider 184 = .ok (.iconst 3, 1) := by decide +kernel
theorem dX8_tellsRider_185 : decode cX8_tellsRider 185 = .ok (.iload_n 3, 1) := by decide +kernel
theorem dX8_tellsRider_186 : decode cX8_tellsRider 186 = .ok (.iconst 1, 1) := by decide +kernel
theorem dX8_tellsRider_187 : decode cX8_tellsRider 187 = .ok (.invokevirtual 272, 3) := by decide +kernel
theorem dX8_tellsRider_190 : decode cX8_tellsRider 190 = .ok (.ladd, 1) := by decide +kernel
theorem dX8_tellsRider_191 : decode cX8_tellsRider 191 = .ok (.lreturn, 1) := by decide +kernel
theorem dX8_tellsDay_0 : decode cX8_tellsDay 0 = .ok (.aload_n 0, 1) := by decide +kernel
theorem dX8_tellsDay_1 : decode cX8_tellsDay 1 = .ok (.invokevirtual 195, 3) := by decide +kernel
theorem dX8_tellsDay_4 : decode cX8_tellsDay 4 = .ok (.ldc2_w 293, 3) := by decide +kernel
theorem dX8_tellsDay_7 : decode cX8_tellsDay 7 = .ok (.lload_n 1, 1) := by decide +kernel
theorem dX8_tellsDay_8 : decode cX8_tellsDay 8 = .ok (.lmul, 1) := by decide +kernel
theorem dX8_tellsDay_9 : decode cX8_tellsDay 9 = .ok (.aload_n 0, 1) := by decide +kernel
theorem dX8_tellsDay_10 : decode cX8_tellsDay 10 = .ok (.iload_n 3, 1) := by decide +kernel
theorem dX8_tellsDay_11 : decode cX8_tellsDay 11 = .ok (.invokevirtual 217, 3) := by decide +kernel
theorem dX8_tellsDay_14 : decode cX8_tellsDay 14 = .ok (.i2l, 1) := by decide +kernel
theorem dX8_tellsDay_15 : decode cX8_tellsDay 15 = .ok (.ladd, 1) := by decide +kernel
theorem dX8_tellsDay_16 : decode cX8_tellsDay 16 = .ok (.lstore 4, 2) := by decide +kernel
theorem dX8_tellsDay_18 : decode cX8_tellsDay 18 = .ok (.ldc2_w 293, 3) := by decide +kernel
theorem dX8_tellsDay_21 : decode cX8_tellsDay 21 = .ok (.lload 4, 2) := by decide +kernel
theorem dX8_tellsDay_23 : decode cX8_tellsDay 23 = .ok (.lmul, 1) := by decide +kernel
theorem dX8_tellsDay_24 : decode cX8_tellsDay 24 = .ok (.aload_n 0, 1) := by decide +kernel
theorem dX8_tellsDay_25 : decode cX8_tellsDay 25 = .ok (.iload_n 3, 1) := by decide +kernel
theorem dX8_tellsDay_26 : decode cX8_tellsDay 26 = .ok (.iconst (-1), 1) := by decide +kernel
theorem dX8_tellsDay_27 : decode cX8_tellsDay 27 = .ok (.invokevirtual 208, 3) := by decide +kernel
theorem dX8_tellsDay_30 : decode cX8_tellsDay 30 = .ok (.i2l, 1) := by decide +kernel
theorem dX8_tellsDay_31 : decode cX8_tellsDay 31 = .ok (.ladd, 1) := by decide +kernel
theorem dX8_tellsDay_32 : decode cX8_tellsDay 32 = .ok (.lstore 4, 2) := by decide +kernel
theorem dX8_tellsDay_34 : decode cX8_tellsDay 34 = .ok (.ldc2_w 293, 3) := by decide +kernel
theorem dX8_tellsDay_37 : decode cX8_tellsDay 37 = .ok (.lload 4, 2) := by decide +kernel
theorem dX8_tellsDay_39 : decode cX8_tellsDay 39 = .ok (.lmul, 1) := by decide +kernel
theorem dX8_tellsDay_40 : decode cX8_tellsDay 40 = .ok (.aload_n 0, 1) := by decide +kernel
theorem dX8_tellsDay_41 : decode cX8_tellsDay 41 = .ok (.iload_n 3, 1) := by decide +kernel
theorem dX8_tellsDay_42 : decode cX8_tellsDay 42 = .ok (.iconst 0, 1) := by decide +kernel
theorem dX8_tellsDay_43 : decode cX8_tellsDay 43 = .ok (.invokevirtual 208, 3) := by decide +kernel
theorem dX8_tellsDay_46 : decode cX8_tellsDay 46 = .ok (.i2l, 1) := by decide +kernel
theorem dX8_tellsDay_47 : decode cX8_tellsDay 47 = .ok (.ladd, 1) := by decide +kernel
theorem dX8_tellsDay_48 : decode cX8_tellsDay 48 = .ok (.lstore 4, 2) := by decide +kernel
theorem dX8_tellsDay_50 : decode cX8_tellsDay 50 = .ok (.ldc2_w 293, 3) := by decide +kernel
theorem dX8_tellsDay_53 : decode cX8_tellsDay 53 = .ok (.lload 4, 2) := by decide +kernel
theorem dX8_tellsDay_55 : decode cX8_tellsDay 55 = .ok (.lmul, 1) := by decide +kernel
theorem dX8_tellsDay_56 : decode cX8_tellsDay 56 = .ok (.aload_n 0, 1) := by decide +kernel
theorem dX8_tellsDay_57 : decode cX8_tellsDay 57 = .ok (.iload_n 3, 1) := by decide +kernel
theorem dX8_tellsDay_58 : decode cX8_tellsDay 58 = .ok (.invokevirtual 263, 3) := by decide +kernel
theorem dX8_tellsDay_61 : decode cX8_tellsDay 61 = .ok (.i2l, 1) := by decide +kernel
theorem dX8_tellsDay_62 : decode cX8_tellsDay 62 = .ok (.ladd, 1) := by decide +kernel
theorem dX8_tellsDay_63 : decode cX8_tellsDay 63 = .ok (.lreturn, 1) := by decide +kernel
theorem dX8_digest_0 : decode cX8_digest 0 = .ok (.ldc2_w 295, 3) := by decide +kernel
theorem dX8_digest_3 : decode cX8_digest 3 = .ok (.lstore_n 1, 1) := by decide +kernel
theorem dX8_digest_4 : decode cX8_digest 4 = .ok (.iconst 0, 1) := by decide +kernel
theorem dX8_digest_5 : decode cX8_digest 5 = .ok (.istore_n 3, 1) := by decide +kernel
theorem dX8_digest_6 : decode cX8_digest 6 = .ok (.iload_n 3, 1) := by decide +kernel
theorem dX8_digest_7 : decode cX8_digest 7 = .ok (.bipush 8, 2) := by decide +kernel
theorem dX8_digest_9 : decode cX8_digest 9 = .ok (.if_icmp .ge 22, 3) := by decide +kernel
theorem dX8_digest_12 : decode cX8_digest 12 = .ok (.ldc2_w 293, 3) := by decide +kernel
theorem dX8_digest_15 : decode cX8_digest 15 = .ok (.lload_n 1, 1) := by decide +kernel
theorem dX8_digest_16 : decode cX8_digest 16 = .ok (.lmul, 1) := by decide +kernel
theorem dX8_digest_17 : decode cX8_digest 17 = .ok (.aload_n 0, 1) := by decide +kernel
theorem dX8_digest_18 : decode cX8_digest 18 = .ok (.iload_n 3, 1) := by decide +kernel
theorem dX8_digest_19 : decode cX8_digest 19 = .ok (.invokevirtual 297, 3) := by decide +kernel
theorem dX8_digest_22 : decode cX8_digest 22 = .ok (.i2l, 1) := by decide +kernel
theorem dX8_digest_23 : decode cX8_digest 23 = .ok (.ladd, 1) := by decide +kernel
theorem dX8_digest_24 : decode cX8_digest 24 = .ok (.lstore_n 1, 1) := by decide +kernel
theorem dX8_digest_25 : decode cX8_digest 25 = .ok (.iinc 3 1, 3) := by decide +kernel
theorem dX8_digest_28 : decode cX8_digest 28 = .ok (.goto (-22), 3) := by decide +kernel
theorem dX8_digest_31 : decode cX8_digest 31 = .ok (.ldc2_w 293, 3) := by decide +kernel
theorem dX8_digest_34 : decode cX8_digest 34 = .ok (.lload_n 1, 1) := by decide +kernel
theorem dX8_digest_35 : decode cX8_digest 35 = .ok (.lmul, 1) := by decide +kernel
theorem dX8_digest_36 : decode cX8_digest 36 = .ok (.aload_n 0, 1) := by decide +kernel
theorem dX8_digest_37 : decode cX8_digest 37 = .ok (.invokevirtual 133, 3) := by decide +kernel
theorem dX8_digest_40 : decode cX8_digest 40 = .ok (.i2l, 1) := by decide +kernel
theorem dX8_digest_41 : decode cX8_digest 41 = .ok (.ladd, 1) := by decide +kernel
theorem dX8_digest_42 : decode cX8_digest 42 = .ok (.lstore_n 1, 1) := by decide +kernel
theorem dX8_digest_43 : decode cX8_digest 43 = .ok (.ldc2_w 293, 3) := by decide +kernel
theorem dX8_digest_46 : decode cX8_digest 46 = .ok (.lload_n 1, 1) := by decide +kernel
theorem dX8_digest_47 : decode cX8_digest 47 = .ok (.lmul, 1) := by decide +kernel
theorem dX8_digest_48 : decode cX8_digest 48 = .ok (.aload_n 0, 1) := by decide +kernel
theorem dX8_digest_49 : decode cX8_digest 49 = .ok (.invokevirtual 137, 3) := by decide +kernel
theorem dX8_digest_52 : decode cX8_digest 52 = .ok (.i2l, 1) := by decide +kernel
theorem dX8_digest_53 : decode cX8_digest 53 = .ok (.ladd, 1) := by decide +kernel
theorem dX8_digest_54 : decode cX8_digest 54 = .ok (.lstore_n 1, 1) := by decide +kernel
theorem dX8_digest_55 : decode cX8_digest 55 = .ok (.iconst 0, 1) := by decide +kernel
theorem dX8_digest_56 : decode cX8_digest 56 = .ok (.istore_n 3, 1) := by decide +kernel
theorem dX8_digest_57 : decode cX8_digest 57 = .ok (.iload_n 3, 1) := by decide +kernel
theorem dX8_digest_58 : decode cX8_digest 58 = .ok (.aload_n 0, 1) := by decide +kernel
theorem dX8_digest_59 : decode cX8_digest 59 = .ok (.getfield 120, 3) := by decide +kernel
theorem dX8_digest_62 : decode cX8_digest 62 = .ok (.if_icmp .ge 16, 3) := by decide +kernel
theorem dX8_digest_65 : decode cX8_digest 65 = .ok (.aload_n 0, 1) := by decide +kernel
theorem dX8_digest_66 : decode cX8_digest 66 = .ok (.lload_n 1, 1) := by decide +kernel
theorem dX8_digest_67 : decode cX8_digest 67 = .ok (.iload_n 3, 1) := by decide +kernel
theorem dX8_digest_68 : decode cX8_digest 68 = .ok (.invokevirtual 300, 3) := by decide +kernel
theorem dX8_digest_71 : decode cX8_digest 71 = .ok (.lstore_n 1, 1) := by decide +kernel
theorem dX8_digest_72 : decode cX8_digest 72 = .ok (.iinc 3 1, 3) := by decide +kernel
theorem dX8_digest_75 : decode cX8_digest 75 = .ok (.goto (-18), 3) := by decide +kernel
theorem dX8_digest_78 : decode cX8_digest 78 = .ok (.aload_n 0, 1) := by decide +kernel
theorem dX8_digest_79 : decode cX8_digest 79 = .ok (.aload_n 0, 1) := by decide +kernel
theorem dX8_digest_80 : decode cX8_digest 80 = .ok (.aload_n 0, 1) := by decide +kernel
theorem dX8_digest_81 : decode cX8_digest 81 = .ok (.lload_n 1, 1) := by decide +kernel
theorem dX8_digest_82 : decode cX8_digest 82 = .ok (.iconst 0, 1) := by decide +kernel
theorem dX8_digest_83 : decode cX8_digest 83 = .ok (.invokevirtual 304, 3) := by decide +kernel
theorem dX8_digest_86 : decode cX8_digest 86 = .ok (.iconst 4, 1) := by decide +kernel
theorem dX8_digest_87 : decode cX8_digest 87 = .ok (.invokevirtual 304, 3) := by decide +kernel
theorem dX8_digest_90 : decode cX8_digest 90 = .ok (.bipush 9, 2) := by decide +kernel
theorem dX8_digest_92 : decode cX8_digest 92 = .ok (.invokevirtual 304, 3) := by decide +kernel
theorem dX8_digest_95 : decode cX8_digest 95 = .ok (.lstore_n 1, 1) := by decide +kernel
theorem dX8_digest_96 : decode cX8_digest 96 = .ok (.aload_n 0, 1) := by decide +kernel
theorem dX8_digest_97 : decode cX8_digest 97 = .ok (.invokevirtual 195, 3) := by decide +kernel
theorem dX8_digest_100 : decode cX8_digest 100 = .ok (.iconst 0, 1) := by decide +kernel
theorem dX8_digest_101 : decode cX8_digest 101 = .ok (.istore_n 3, 1) := by decide +kernel
theorem dX8_digest_102 : decode cX8_digest 102 = .ok (.iload_n 3, 1) := by decide +kernel
theorem dX8_digest_103 : decode cX8_digest 103 = .ok (.iconst 3, 1) := by decide +kernel
theorem dX8_digest_104 : decode cX8_digest 104 = .ok (.if_icmp .ge 23, 3) := by decide +kernel
theorem dX8_digest_107 : decode cX8_digest 107 = .ok (.ldc2_w 293, 3) := by decide +kernel
theorem dX8_digest_110 : decode cX8_digest 110 = .ok (.lload_n 1, 1) := by decide +kernel
theorem dX8_digest_111 : decode cX8_digest 111 = .ok (.lmul, 1) := by decide +kernel
theorem dX8_digest_112 : decode cX8_digest 112 = .ok (.aload_n 0, 1) := by decide +kernel
theorem dX8_digest_113 : decode cX8_digest 113 = .ok (.getfield 61, 3) := by decide +kernel
theorem dX8_digest_116 : decode cX8_digest 116 = .ok (.iload_n 3, 1) := by decide +kernel
theorem dX8_digest_117 : decode cX8_digest 117 = .ok (.iaload, 1) := by decide +kernel
theorem dX8_digest_118 : decode cX8_digest 118 = .ok (.i2l, 1) := by decide +kernel
theorem dX8_digest_119 : decode cX8_digest 119 = .ok (.ladd, 1) := by decide +kernel
theorem dX8_digest_120 : decode cX8_digest 120 = .ok (.lstore_n 1, 1) := by decide +kernel
theorem dX8_digest_121 : decode cX8_digest 121 = .ok (.iinc 3 1, 3) := by decide +kernel
theorem dX8_digest_124 : decode cX8_digest 124 = .ok (.goto (-22), 3) := by decide +kernel
theorem dX8_digest_127 : decode cX8_digest 127 = .ok (.ldc2_w 293, 3) := by decide +kernel
theorem dX8_digest_130 : decode cX8_digest 130 = .ok (.lload_n 1, 1) := by decide +kernel
theorem dX8_digest_131 : decode cX8_digest 131 = .ok (.lmul, 1) := by decide +kernel
theorem dX8_digest_132 : decode cX8_digest 132 = .ok (.aload_n 0, 1) := by decide +kernel
theorem dX8_digest_133 : decode cX8_digest 133 = .ok (.getfield 183, 3) := by decide +kernel
theorem dX8_digest_136 : decode cX8_digest 136 = .ok (.i2l, 1) := by decide +kernel
theorem dX8_digest_137 : decode cX8_digest 137 = .ok (.ladd, 1) := by decide +kernel
theorem dX8_digest_138 : decode cX8_digest 138 = .ok (.lstore_n 1, 1) := by decide +kernel
theorem dX8_digest_139 : decode cX8_digest 139 = .ok (.ldc2_w 293, 3) := by decide +kernel
theorem dX8_digest_142 : decode cX8_digest 142 = .ok (.lload_n 1, 1) := by decide +kernel
theorem dX8_digest_143 : decode cX8_digest 143 = .ok (.lmul, 1) := by decide +kernel
theorem dX8_digest_144 : decode cX8_digest 144 = .ok (.aload_n 0, 1) := by decide +kernel
theorem dX8_digest_145 : decode cX8_digest 145 = .ok (.iconst 0, 1) := by decide +kernel
theorem dX8_digest_146 : decode cX8_digest 146 = .ok (.invokevirtual 227, 3) := by decide +kernel
theorem dX8_digest_149 : decode cX8_digest 149 = .ok (.i2l, 1) := by decide +kernel
theorem dX8_digest_150 : decode cX8_digest 150 = .ok (.ladd, 1) := by decide +kernel
theorem dX8_digest_151 : decode cX8_digest 151 = .ok (.lstore_n 1, 1) := by decide +kernel
theorem dX8_digest_152 : decode cX8_digest 152 = .ok (.ldc2_w 293, 3) := by decide +kernel
theorem dX8_digest_155 : decode cX8_digest 155 = .ok (.lload_n 1, 1) := by decide +kernel
theorem dX8_digest_156 : decode cX8_digest 156 = .ok (.lmul, 1) := by decide +kernel
theorem dX8_digest_157 : decode cX8_digest 157 = .ok (.aload_n 0, 1) := by decide +kernel
theorem dX8_digest_158 : decode cX8_digest 158 = .ok (.iconst 1, 1) := by decide +kernel
theorem dX8_digest_159 : decode cX8_digest 159 = .ok (.invokevirtual 227, 3) := by decide +kernel
theorem dX8_digest_162 : decode cX8_digest 162 = .ok (.i2l, 1) := by decide +kernel
theorem dX8_digest_163 : decode cX8_digest 163 = .ok (.ladd, 1) := by decide +kernel
theorem dX8_digest_164 : decode cX8_digest 164 = .ok (.lstore_n 1, 1) := by decide +kernel
theorem dX8_digest_165 : decode cX8_digest 165 = .ok (.ldc2_w 293, 3) := by decide +kernel
theorem dX8_digest_168 : decode cX8_digest 168 = .ok (.lload_n 1, 1) := by decide +kernel
theorem dX8_digest_169 : decode cX8_digest 169 = .ok (.lmul, 1) := by decide +kernel
theorem dX8_digest_170 : decode cX8_digest 170 = .ok (.aload_n 0, 1) := by decide +kernel
theorem dX8_digest_171 : decode cX8_digest 171 = .ok (.iconst 0, 1) := by decide +kernel
theorem dX8_digest_172 : decode cX8_digest 172 = .ok (.invokevirtual 239, 3) := by decide +kernel
theorem dX8_digest_175 : decode cX8_digest 175 = .ok (.i2l, 1) := by decide +kernel
theorem dX8_digest_176 : decode cX8_digest 176 = .ok (.ladd, 1) := by decide +kernel
theorem dX8_digest_177 : decode cX8_digest 177 = .ok (.lstore_n 1, 1) := by decide +kernel
theorem dX8_digest_178 : decode cX8_digest 178 = .ok (.ldc2_w 293, 3) := by decide +kernel
theorem dX8_digest_181 : decode cX8_digest 181 = .ok (.lload_n 1, 1) := by decide +kernel
theorem dX8_digest_182 : decode cX8_digest 182 = .ok (.lmul, 1) := by decide +kernel
theorem dX8_digest_183 : decode cX8_digest 183 = .ok (.aload_n 0, 1) := by decide +kernel
theorem dX8_digest_184 : decode cX8_digest 184 = .ok (.iconst 1, 1) := by decide +kernel
theorem dX8_digest_185 : decode cX8_digest 185 = .ok (.invokevirtual 239, 3) := by decide +kernel
theorem dX8_digest_188 : decode cX8_digest 188 = .ok (.i2l, 1) := by decide +kernel
theorem dX8_digest_189 : decode cX8_digest 189 = .ok (.ladd, 1) := by decide +kernel
theorem dX8_digest_190 : decode cX8_digest 190 = .ok (.lstore_n 1, 1) := by decide +kernel
theorem dX8_digest_191 : decode cX8_digest 191 = .ok (.ldc2_w 293, 3) := by decide +kernel
theorem dX8_digest_194 : decode cX8_digest 194 = .ok (.lload_n 1, 1) := by decide +kernel
theorem dX8_digest_195 : decode cX8_digest 195 = .ok (.lmul, 1) := by decide +kernel
theorem dX8_digest_196 : decode cX8_digest 196 = .ok (.aload_n 0, 1) := by decide +kernel
theorem dX8_digest_197 : decode cX8_digest 197 = .ok (.iconst 0, 1) := by decide +kernel
theorem dX8_digest_198 : decode cX8_digest 198 = .ok (.invokevirtual 242, 3) := by decide +kernel
theorem dX8_digest_201 : decode cX8_digest 201 = .ok (.i2l, 1) := by decide +kernel
theorem dX8_digest_202 : decode cX8_digest 202 = .ok (.ladd, 1) := by decide +kernel
theorem dX8_digest_203 : decode cX8_digest 203 = .ok (.lstore_n 1, 1) := by decide +kernel
theorem dX8_digest_204 : decode cX8_digest 204 = .ok (.ldc2_w 293, 3) := by decide +kernel
theorem dX8_digest_207 : decode cX8_digest 207 = .ok (.lload_n 1, 1) := by decide +kernel
theorem dX8_digest_208 : decode cX8_digest 208 = .ok (.lmul, 1) := by decide +kernel
theorem dX8_digest_209 : decode cX8_digest 209 = .ok (.aload_n 0, 1) := by decide +kernel
theorem dX8_digest_210 : decode cX8_digest 210 = .ok (.iconst 1, 1) := by decide +kernel
theorem dX8_digest_211 : decode cX8_digest 211 = .ok (.invokevirtual 242, 3) := by decide +kernel
theorem dX8_digest_214 : decode cX8_digest 214 = .ok (.i2l, 1) := by decide +kernel
theorem dX8_digest_215 : decode cX8_digest 215 = .ok (.ladd, 1) := by decide +kernel
theorem dX8_digest_216 : decode cX8_digest 216 = .ok (.lstore_n 1, 1) := by decide +kernel
theorem dX8_digest_217 : decode cX8_digest 217 = .ok (.ldc2_w 293, 3) := by decide +kernel
theorem dX8_digest_220 : decode cX8_digest 220 = .ok (.lload_n 1, 1) := by decide +kernel
theorem dX8_digest_221 : decode cX8_digest 221 = .ok (.lmul, 1) := by decide +kernel
theorem dX8_digest_222 : decode cX8_digest 222 = .ok (.aload_n 0, 1) := by decide +kernel
theorem dX8_digest_223 : decode cX8_digest 223 = .ok (.invokevirtual 260, 3) := by decide +kernel
theorem dX8_digest_226 : decode cX8_digest 226 = .ok (.i2l, 1) := by decide +kernel
theorem dX8_digest_227 : decode cX8_digest 227 = .ok (.ladd, 1) := by decide +kernel
theorem dX8_digest_228 : decode cX8_digest 228 = .ok (.lstore_n 1, 1) := by decide +kernel
theorem dX8_digest_229 : decode cX8_digest 229 = .ok (.ldc2_w 293, 3) := by decide +kernel
theorem dX8_digest_232 : decode cX8_digest 232 = .ok (.lload_n 1, 1) := by decide +kernel
theorem dX8_digest_233 : decode cX8_digest 233 = .ok (.lmul, 1) := by decide +kernel
theorem dX8_digest_234 : decode cX8_digest 234 = .ok (.aload_n 0, 1) := by decide +kernel
theorem dX8_digest_235 : decode cX8_digest 235 = .ok (.bipush 7, 2) := by decide +kernel
theorem dX8_digest_237 : decode cX8_digest 237 = .ok (.bipush 9, 2) := by decide +kernel
theorem dX8_digest_239 : decode cX8_digest 239 = .ok (.iconst 0, 1) := by decide +kernel
theorem dX8_digest_240 : decode cX8_digest 240 = .ok (.invokevirtual 287, 3) := by decide +kernel
theorem dX8_digest_243 : decode cX8_digest 243 = .ok (.i2l, 1) := by decide +kernel
theorem dX8_digest_244 : decode cX8_digest 244 = .ok (.ladd, 1) := by decide +kernel
theorem dX8_digest_245 : decode cX8_digest 245 = .ok (.lstore_n 1, 1) := by decide +kernel
theorem dX8_digest_246 : decode cX8_digest 246 = .ok (.ldc2_w 293, 3) := by decide +kernel
theorem dX8_digest_249 : decode cX8_digest 249 = .ok (.lload_n 1, 1) := by decide +kernel
theorem dX8_digest_250 : decode cX8_digest 250 = .ok (.lmul, 1) := by decide +kernel
theorem dX8_digest_251 : decode cX8_digest 251 = .ok (.aload_n 0, 1) := by decide +kernel
theorem dX8_digest_252 : decode cX8_digest 252 = .ok (.bipush 7, 2) := by decide +kernel
theorem dX8_digest_254 : decode cX8_digest 254 = .ok (.bipush 9, 2) := by decide +kernel
theorem dX8_digest_256 : decode cX8_digest 256 = .ok (.iconst 1, 1) := by decide +kernel
theorem dX8_digest_257 : decode cX8_digest 257 = .ok (.invokevirtual 287, 3) := by decide +kernel
theorem dX8_digest_260 : decode cX8_digest 260 = .ok (.i2l, 1) := by decide +kernel
theorem dX8_digest_261 : decode cX8_digest 261 = .ok (.ladd, 1) := by decide +kernel
theorem dX8_digest_262 : decode cX8_digest 262 = .ok (.lreturn, 1) := by decide +kernel
end
section
theorem dJ6_bitCount_0f7a4_0 : decode cJ6_bitCount_0f7a4 0 = .ok (.iload_n 0, 1) := by decide +kernel
theorem dJ6_bitCount_0f7a4_1 : decode cJ6_bitCount_0f7a4 1 = .ok (.iload_n 0, 1) := by decide +kernel
theorem dJ6_bitCount_0f7a4_2 : decode cJ6_bitCount_0f7a4 2 = .ok (.iconst 1, 1) := by decide +kernel
theorem dJ6_bitCount_0f7a4_3 : decode cJ6_bitCount_0f7a4 3 = .ok (.iushr, 1) := by decide +kernel
theorem dJ6_bitCount_0f7a4_4 : decode cJ6_bitCount_0f7a4 4 = .ok (.ldc_w 265, 3) := by decide +kernel
theorem dJ6_bitCount_0f7a4_7 : decode cJ6_bitCount_0f7a4 7 = .ok (.iand, 1) := by decide +kernel
theorem dJ6_bitCount_0f7a4_8 : decode cJ6_bitCount_0f7a4 8 = .ok (.isub, 1) := by decide +kernel
theorem dJ6_bitCount_0f7a4_9 : decode cJ6_bitCount_0f7a4 9 = .ok (.istore_n 0, 1) := by decide +kernel
theorem dJ6_bitCount_0f7a4_10 : decode cJ6_bitCount_0f7a4 10 = .ok (.iload_n 0, 1) := by decide +kernel
theorem dJ6_bitCount_0f7a4_11 : decode cJ6_bitCount_0f7a4 11 = .ok (.ldc_w 266, 3) := by decide +kernel
theorem dJ6_bitCount_0f7a4_14 : decode cJ6_bitCount_0f7a4 14 = .ok (.iand, 1) := by decide +kernel
theorem dJ6_bitCount_0f7a4_15 : decode cJ6_bitCount_0f7a4 15 = .ok (.iload_n 0, 1) := by decide +kernel
theorem dJ6_bitCount_0f7a4_16 : decode cJ6_bitCount_0f7a4 16 = .ok (.iconst 2, 1) := by decide +kernel
theorem dJ6_bitCount_0f7a4_17 : decode cJ6_bitCount_0f7a4 17 = .ok (.iushr, 1) := by decide +kernel
theorem dJ6_bitCount_0f7a4_18 : decode cJ6_bitCount_0f7a4 18 = .ok (.ldc_w 266, 3) := by decide +kernel
theorem dJ6_bitCount_0f7a4_21 : decode cJ6_bitCount_0f7a4 21 = .ok (.iand, 1) := by decide +kernel
theorem dJ6_bitCount_0f7a4_22 : decode cJ6_bitCount_0f7a4 22 = .ok (.iadd, 1) := by decide +kernel
theorem dJ6_bitCount_0f7a4_23 : decode cJ6_bitCount_0f7a4 23 = .ok (.istore_n 0, 1) := by decide +kernel
theorem dJ6_bitCount_0f7a4_24 : decode cJ6_bitCount_0f7a4 24 = .ok (.iload_n 0, 1) := by decide +kernel
theorem dJ6_bitCount_0f7a4_25 : decode cJ6_bitCount_0f7a4 25 = .ok (.iload_n 0, 1) := by decide +kernel
theorem dJ6_bitCount_0f7a4_26 : decode cJ6_bitCount_0f7a4 26 = .ok (.iconst 4, 1) := by decide +kernel
theorem dJ6_bitCount_0f7a4_27 : decode cJ6_bitCount_0f7a4 27 = .ok (.iushr, 1) := by decide +kernel
theorem dJ6_bitCount_0f7a4_28 : decode cJ6_bitCount_0f7a4 28 = .ok (.iadd, 1) := by decide +kernel
theorem dJ6_bitCount_0f7a4_29 : decode cJ6_bitCount_0f7a4 29 = .ok (.ldc_w 267, 3) := by decide +kernel
theorem dJ6_bitCount_0f7a4_32 : decode cJ6_bitCount_0f7a4 32 = .ok (.iand, 1) := by decide +kernel
theorem dJ6_bitCount_0f7a4_33 : decode cJ6_bitCount_0f7a4 33 = .ok (.istore_n 0, 1) := by decide +kernel
theorem dJ6_bitCount_0f7a4_34 : decode cJ6_bitCount_0f7a4 34 = .ok (.iload_n 0, 1) := by decide +kernel
theorem dJ6_bitCount_0f7a4_35 : decode cJ6_bitCount_0f7a4 35 = .ok (.iload_n 0, 1) := by decide +kernel
theorem dJ6_bitCount_0f7a4_36 : decode cJ6_bitCount_0f7a4 36 = .ok (.bipush 8, 2) := by decide +kernel
theorem dJ6_bitCount_0f7a4_38 : decode cJ6_bitCount_0f7a4 38 = .ok (.iushr, 1) := by decide +kernel
theorem dJ6_bitCount_0f7a4_39 : decode cJ6_bitCount_0f7a4 39 = .ok (.iadd, 1) := by decide +kernel
theorem dJ6_bitCount_0f7a4_40 : decode cJ6_bitCount_0f7a4 40 = .ok (.istore_n 0, 1) := by decide +kernel
theorem dJ6_bitCount_0f7a4_41 : decode cJ6_bitCount_0f7a4 41 = .ok (.iload_n 0, 1) := by decide +kernel
theorem dJ6_bitCount_0f7a4_42 : decode cJ6_bitCount_0f7a4 42 = .ok (.iload_n 0, 1) := by decide +kernel
theorem dJ6_bitCount_0f7a4_43 : decode cJ6_bitCount_0f7a4 43 = .ok (.bipush 16, 2) := by decide +kernel
theorem dJ6_bitCount_0f7a4_45 : decode cJ6_bitCount_0f7a4 45 = .ok (.iushr, 1) := by decide +kernel
theorem dJ6_bitCount_0f7a4_46 : decode cJ6_bitCount_0f7a4 46 = .ok (.iadd, 1) := by decide +kernel
theorem dJ6_bitCount_0f7a4_47 : decode cJ6_bitCount_0f7a4 47 = .ok (.istore_n 0, 1) := by decide +kernel
theorem dJ6_bitCount_0f7a4_48 : decode cJ6_bitCount_0f7a4 48 = .ok (.iload_n 0, 1) := by decide +kernel
theorem dJ6_bitCount_0f7a4_49 : decode cJ6_bitCount_0f7a4 49 = .ok (.bipush 63, 2) := by decide +kernel
theorem dJ6_bitCount_0f7a4_51 : decode cJ6_bitCount_0f7a4 51 = .ok (.iand, 1) := by decide +kernel
theorem dJ6_bitCount_0f7a4_52 : decode cJ6_bitCount_0f7a4 52 = .ok (.ireturn, 1) := by decide +kernel
theorem dJ9_max_7cf53_0 : decode cJ9_max_7cf53 0 = .ok (.iload_n 0, 1) := by decide +kernel
theorem dJ9_max_7cf53_1 : decode cJ9_max_7cf53 1 = .ok (.iload_n 1, 1) := by decide +kernel
theorem dJ9_max_7cf53_2 : decode cJ9_max_7cf53 2 = .ok (.if_icmp .lt 7, 3) := by decide +kernel
theorem dJ9_max_7cf53_5 : decode cJ9_max_7cf53 5 = .ok (.iload_n 0, 1) := by decide +kernel
theorem dJ9_max_7cf53_6 : decode cJ9_max_7cf53 6 = .ok (.goto 4, 3) := by decide +kernel
theorem dJ9_max_7cf53_9 : decode cJ9_max_7cf53 9 = .ok (.iload_n 1, 1) := by decide +kernel
theorem dJ9_max_7cf53_10 : decode cJ9_max_7cf53 10 = .ok (.ireturn, 1) := by decide +kernel
theorem dJ9_min_7cf53_0 : decode cJ9_min_7cf53 0 = .ok (.iload_n 0, 1) := by decide +kernel
theorem dJ9_min_7cf53_1 : decode cJ9_min_7cf53 1 = .ok (.iload_n 1, 1) := by decide +kernel
theorem dJ9_min_7cf53_2 : decode cJ9_min_7cf53 2 = .ok (.if_icmp .gt 7, 3) := by decide +kernel
theorem dJ9_min_7cf53_5 : decode cJ9_min_7cf53 5 = .ok (.iload_n 0, 1) := by decide +kernel
theorem dJ9_min_7cf53_6 : decode cJ9_min_7cf53 6 = .ok (.goto 4, 3) := by decide +kernel
theorem dJ9_min_7cf53_9 : decode cJ9_min_7cf53 9 = .ok (.iload_n 1, 1) := by decide +kernel
theorem dJ9_min_7cf53_10 : decode cJ9_min_7cf53 10 = .ok (.ireturn, 1) := by decide +kernel
theorem dJ7_fill_53178_0 : decode cJ7_fill_53178 0 = .ok (.iconst 0, 1) := by decide +kernel
theorem dJ7_fill_53178_1 : decode cJ7_fill_53178 1 = .ok (.istore_n 2, 1) := by decide +kernel
theorem dJ7_fill_53178_2 : decode cJ7_fill_53178 2 = .ok (.aload_n 0, 1) := by decide +kernel
theorem dJ7_fill_53178_3 : decode cJ7_fill_53178 3 = .ok (.arraylength, 1) := by decide +kernel
theorem dJ7_fill_53178_4 : decode cJ7_fill_53178 4 = .ok (.istore_n 3, 1) := by decide +kernel
theorem dJ7_fill_53178_5 : decode cJ7_fill_53178 5 = .ok (.iload_n 2, 1) := by decide +kernel
theorem dJ7_fill_53178_6 : decode cJ7_fill_53178 6 = .ok (.iload_n 3, 1) := by decide +kernel
theorem dJ7_fill_53178_7 : decode cJ7_fill_53178 7 = .ok (.if_icmp .ge 13, 3) := by decide +kernel
theorem dJ7_fill_53178_10 : decode cJ7_fill_53178 10 = .ok (.aload_n 0, 1) := by decide +kernel
theorem dJ7_fill_53178_11 : decode cJ7_fill_53178 11 = .ok (.iload_n 2, 1) := by decide +kernel
theorem dJ7_fill_53178_12 : decode cJ7_fill_53178 12 = .ok (.iload_n 1, 1) := by decide +kernel
theorem dJ7_fill_53178_13 : decode cJ7_fill_53178 13 = .ok (.iastore, 1) := by decide +kernel
theorem dJ7_fill_53178_14 : decode cJ7_fill_53178 14 = .ok (.iinc 2 1, 3) := by decide +kernel
theorem dJ7_fill_53178_17 : decode cJ7_fill_53178 17 = .ok (.goto (-12), 3) := by decide +kernel
theorem dJ7_fill_53178_20 : decode cJ7_fill_53178 20 = .ok (.return_, 1) := by decide +kernel
end
section
def bx1 {A0 ρ : Type} (o : Option (A0)) (k : A0 → Option ρ) : Option ρ := match o with
  | none => none
  | some a0 => k a0
theorem bx1_some {A0 ρ : Type} {o : Option (A0)} {k : A0 → Option ρ} {r : ρ} (h : bx1 o k = some r) : ∃ a0, o = some a0 ∧ k a0 = some r := by
  cases o with
  | none => cases h
  | some z => exact ⟨z, rfl, h⟩
def bs1 {A0 B ρ : Type} (o : Option ((A0) ⊕ B)) (k : A0 → Option ρ) (f : B → Option ρ) : Option ρ := match o with
  | none => none
  | some (.inl a0) => k a0
  | some (.inr b) => f b
theorem bs1_some {A0 B ρ : Type} {o : Option ((A0) ⊕ B)} {k : A0 → Option ρ} {f : B → Option ρ} {r : ρ} (h : bs1 o k f = some r) : (∃ a0, o = some (.inl a0) ∧ k a0 = some r) ∨ ∃ b, o = some (.inr b) ∧ f b = some r := by
  cases o with
  | none => cases h
  | some z =>
    cases z with
    | inl z => exact Or.inl ⟨z, rfl, h⟩
    | inr b => exact Or.inr ⟨b, rfl, h⟩
def bx2 {A0 A1 ρ : Type} (o : Option (A0 × A1)) (k : A0 → A1 → Option ρ) : Option ρ := match o with
  | none => none
  | some (a0, a1) => k a0 a1
theorem bx2_some {A0 A1 ρ : Type} {o : Option (A0 × A1)} {k : A0 → A1 → Option ρ} {r : ρ} (h : bx2 o k = some r) : ∃ a0 a1, o = some (a0, a1) ∧ k a0 a1 = some r := by
  cases o with
  | none => cases h
  | some z => exact ⟨z.1, z.2, rfl, h⟩
def bs2 {A0 A1 B ρ : Type} (o : Option ((A0 × A1) ⊕ B)) (k : A0 → A1 → Option ρ) (f : B → Option ρ) : Option ρ := match o with
  | none => none
  | some (.inl (a0, a1)) => k a0 a1
  | some (.inr b) => f b
theorem bs2_some {A0 A1 B ρ : Type} {o : Option ((A0 × A1) ⊕ B)} {k : A0 → A1 → Option ρ} {f : B → Option ρ} {r : ρ} (h : bs2 o k f = some r) : (∃ a0 a1, o = some (.inl (a0, a1)) ∧ k a0 a1 = some r) ∨ ∃ b, o = some (.inr b) ∧ f b = some r := by
  cases o with
  | none => cases h
  | some z =>
    cases z with
    | inl z => exact Or.inl ⟨z.1, z.2, rfl, h⟩
    | inr b => exact Or.inr ⟨b, rfl, h⟩
def bx3 {A0 A1 A2 ρ : Type} (o : Option (A0 × A1 × A2)) (k : A0 → A1 → A2 → Option ρ) : Option ρ := match o with
  | none => none
  | some (a0, a1, a2) => k a0 a1 a2
theorem bx3_some {A0 A1 A2 ρ : Type} {o : Option (A0 × A1 × A2)} {k : A0 → A1 → A2 → Option ρ} {r : ρ} (h : bx3 o k = some r) : ∃ a0 a1 a2, o = some (a0, a1, a2) ∧ k a0 a1 a2 = some r := by
  cases o with
  | none => cases h
  | some z => exact ⟨z.1, z.2.1, z.2.2, rfl, h⟩
def bs3 {A0 A1 A2 B ρ : Type} (o : Option ((A0 × A1 × A2) ⊕ B)) (k : A0 → A1 → A2 → Option ρ) (f : B → Option ρ) : Option ρ := match o with
  | none => none
  | some (.inl (a0, a1, a2)) => k a0 a1 a2
  | some (.inr b) => f b
theorem bs3_some {A0 A1 A2 B ρ : Type} {o : Option ((A0 × A1 × A2) ⊕ B)} {k : A0 → A1 → A2 → Option ρ} {f : B → Option ρ} {r : ρ} (h : bs3 o k f = some r) : (∃ a0 a1 a2, o = some (.inl (a0, a1, a2)) ∧ k a0 a1 a2 = some r) ∨ ∃ b, o = some (.inr b) ∧ f b = some r := by
  cases o with
  | none => cases h
  | some z =>
    cases z with
    | inl z => exact Or.inl ⟨z.1, z.2.1, z.2.2, rfl, h⟩
    | inr b => exact Or.inr ⟨b, rfl, h⟩
def bx4 {A0 A1 A2 A3 ρ : Type} (o : Option (A0 × A1 × A2 × A3)) (k : A0 → A1 → A2 → A3 → Option ρ) : Option ρ := match o with
  | none => none
  | some (a0, a1, a2, a3) => k a0 a1 a2 a3
theorem bx4_some {A0 A1 A2 A3 ρ : Type} {o : Option (A0 × A1 × A2 × A3)} {k : A0 → A1 → A2 → A3 → Option ρ} {r : ρ} (h : bx4 o k = some r) : ∃ a0 a1 a2 a3, o = some (a0, a1, a2, a3) ∧ k a0 a1 a2 a3 = some r := by
  cases o with
  | none => cases h
  | some z => exact ⟨z.1, z.2.1, z.2.2.1, z.2.2.2, rfl, h⟩
def bs4 {A0 A1 A2 A3 B ρ : Type} (o : Option ((A0 × A1 × A2 × A3) ⊕ B)) (k : A0 → A1 → A2 → A3 → Option ρ) (f : B → Option ρ) : Option ρ := match o with
  | none => none
  | some (.inl (a0, a1, a2, a3)) => k a0 a1 a2 a3
  | some (.inr b) => f b
theorem bs4_some {A0 A1 A2 A3 B ρ : Type} {o : Option ((A0 × A1 × A2 × A3) ⊕ B)} {k : A0 → A1 → A2 → A3 → Option ρ} {f : B → Option ρ} {r : ρ} (h : bs4 o k f = some r) : (∃ a0 a1 a2 a3, o = some (.inl (a0, a1, a2, a3)) ∧ k a0 a1 a2 a3 = some r) ∨ ∃ b, o = some (.inr b) ∧ f b = some r := by
  cases o with
  | none => cases h
  | some z =>
    cases z with
    | inl z => exact Or.inl ⟨z.1, z.2.1, z.2.2.1, z.2.2.2, rfl, h⟩
    | inr b => exact Or.inr ⟨b, rfl, h⟩
def bx5 {A0 A1 A2 A3 A4 ρ : Type} (o : Option (A0 × A1 × A2 × A3 × A4)) (k : A0 → A1 → A2 → A3 → A4 → Option ρ) : Option ρ := match o with
  | none => none
  | some (a0, a1, a2, a3, a4) => k a0 a1 a2 a3 a4
theorem bx5_some {A0 A1 A2 A3 A4 ρ : Type} {o : Option (A0 × A1 × A2 × A3 × A4)} {k : A0 → A1 → A2 → A3 → A4 → Option ρ} {r : ρ} (h : bx5 o k = some r) : ∃ a0 a1 a2 a3 a4, o = some (a0, a1, a2, a3, a4) ∧ k a0 a1 a2 a3 a4 = some r := by
  cases o with
  | none => cases h
  | some z => exact ⟨z.1, z.2.1, z.2.2.1, z.2.2.2.1, z.2.2.2.2, rfl, h⟩
def bs5 {A0 A1 A2 A3 A4 B ρ : Type} (o : Option ((A0 × A1 × A2 × A3 × A4) ⊕ B)) (k : A0 → A1 → A2 → A3 → A4 → Option ρ) (f : B → Option ρ) : Option ρ := match o with
  | none => none
  | some (.inl (a0, a1, a2, a3, a4)) => k a0 a1 a2 a3 a4
  | some (.inr b) => f b
theorem bs5_some {A0 A1 A2 A3 A4 B ρ : Type} {o : Option ((A0 × A1 × A2 × A3 × A4) ⊕ B)} {k : A0 → A1 → A2 → A3 → A4 → Option ρ} {f : B → Option ρ} {r : ρ} (h : bs5 o k f = some r) : (∃ a0 a1 a2 a3 a4, o = some (.inl (a0, a1, a2, a3, a4)) ∧ k a0 a1 a2 a3 a4 = some r) ∨ ∃ b, o = some (.inr b) ∧ f b = some r := by
  cases o with
  | none => cases h
  | some z =>
    cases z with
    | inl z => exact Or.inl ⟨z.1, z.2.1, z.2.2.1, z.2.2.2.1, z.2.2.2.2, rfl, h⟩
    | inr b => exact Or.inr ⟨b, rfl, h⟩
def bx6 {A0 A1 A2 A3 A4 A5 ρ : Type} (o : Option (A0 × A1 × A2 × A3 × A4 × A5)) (k : A0 → A1 → A2 → A3 → A4 → A5 → Option ρ) : Option ρ := match o with
  | none => none
  | some (a0, a1, a2, a3, a4, a5) => k a0 a1 a2 a3 a4 a5
theorem bx6_some {A0 A1 A2 A3 A4 A5 ρ : Type} {o : Option (A0 × A1 × A2 × A3 × A4 × A5)} {k : A0 → A1 → A2 → A3 → A4 → A5 → Option ρ} {r : ρ} (h : bx6 o k = some r) : ∃ a0 a1 a2 a3 a4 a5, o = some (a0, a1, a2, a3, a4, a5) ∧ k a0 a1 a2 a3 a4 a5 = some r := by
  cases o with
  | none => cases h
  | some z => exact ⟨z.1, z.2.1, z.2.2.1, z.2.2.2.1, z.2.2.2.2.1, z.2.2.2.2.2, rfl, h⟩
def bs6 {A0 A1 A2 A3 A4 A5 B ρ : Type} (o : Option ((A0 × A1 × A2 × A3 × A4 × A5) ⊕ B)) (k : A0 → A1 → A2 → A3 → A4 → A5 → Option ρ) (f : B → Option ρ) : Option ρ := match o with
  | none => none
  | some (.inl (a0, a1, a2, a3, a4, a5)) => k a0 a1 a2 a3 a4 a5
  | some (.inr b) => f b
theorem bs6_some {A0 A1 A2 A3 A4 A5 B ρ : Type} {o : Option ((A0 × A1 × A2 × A3 × A4 × A5) ⊕ B)} {k : A0 → A1 → A2 → A3 → A4 → A5 → Option ρ} {f : B → Option ρ} {r : ρ} (h : bs6 o k f = some r) : (∃ a0 a1 a2 a3 a4 a5, o = some (.inl (a0, a1, a2, a3, a4, a5)) ∧ k a0 a1 a2 a3 a4 a5 = some r) ∨ ∃ b, o = some (.inr b) ∧ f b = some r := by
  cases o with
  | none => cases h
  | some z =>
    cases z with
    | inl z => exact Or.inl ⟨z.1, z.2.1, z.2.2.1, z.2.2.2.1, z.2.2.2.2.1, z.2.2.2.2.2, rfl, h⟩
    | inr b => exact Or.inr ⟨b, rfl, h⟩
def bx7 {A0 A1 A2 A3 A4 A5 A6 ρ : Type} (o : Option (A0 × A1 × A2 × A3 × A4 × A5 × A6)) (k : A0 → A1 → A2 → A3 → A4 → A5 → A6 → Option ρ) : Option ρ := match o with
  | none => none
  | some (a0, a1, a2, a3, a4, a5, a6) => k a0 a1 a2 a3 a4 a5 a6
theorem bx7_some {A0 A1 A2 A3 A4 A5 A6 ρ : Type} {o : Option (A0 × A1 × A2 × A3 × A4 × A5 × A6)} {k : A0 → A1 → A2 → A3 → A4 → A5 → A6 → Option ρ} {r : ρ} (h : bx7 o k = some r) : ∃ a0 a1 a2 a3 a4 a5 a6, o = some (a0, a1, a2, a3, a4, a5, a6) ∧ k a0 a1 a2 a3 a4 a5 a6 = some r := by
  cases o with
  | none => cases h
  | some z => exact ⟨z.1, z.2.1, z.2.2.1, z.2.2.2.1, z.2.2.2.2.1, z.2.2.2.2.2.1, z.2.2.2.2.2.2, rfl, h⟩
def bs7 {A0 A1 A2 A3 A4 A5 A6 B ρ : Type} (o : Option ((A0 × A1 × A2 × A3 × A4 × A5 × A6) ⊕ B)) (k : A0 → A1 → A2 → A3 → A4 → A5 → A6 → Option ρ) (f : B → Option ρ) : Option ρ := match o with
  | none => none
  | some (.inl (a0, a1, a2, a3, a4, a5, a6)) => k a0 a1 a2 a3 a4 a5 a6
  | some (.inr b) => f b
theorem bs7_some {A0 A1 A2 A3 A4 A5 A6 B ρ : Type} {o : Option ((A0 × A1 × A2 × A3 × A4 × A5 × A6) ⊕ B)} {k : A0 → A1 → A2 → A3 → A4 → A5 → A6 → Option ρ} {f : B → Option ρ} {r : ρ} (h : bs7 o k f = some r) : (∃ a0 a1 a2 a3 a4 a5 a6, o = some (.inl (a0, a1, a2, a3, a4, a5, a6)) ∧ k a0 a1 a2 a3 a4 a5 a6 = some r) ∨ ∃ b, o = some (.inr b) ∧ f b = some r := by
  cases o with
  | none => cases h
  | some z =>
    cases z with
    | inl z => exact Or.inl ⟨z.1, z.2.1, z.2.2.1, z.2.2.2.1, z.2.2.2.2.1, z.2.2.2.2.2.1, z.2.2.2.2.2.2, rfl, h⟩
    | inr b => exact Or.inr ⟨b, rfl, h⟩
def bx8 {A0 A1 A2 A3 A4 A5 A6 A7 ρ : Type} (o : Option (A0 × A1 × A2 × A3 × A4 × A5 × A6 × A7)) (k : A0 → A1 → A2 → A3 → A4 → A5 → A6 → A7 → Option ρ) : Option ρ := match o with
  | none => none
  | some (a0, a1, a2, a3, a4, a5, a6, a7) => k a0 a1 a2 a3 a4 a5 a6 a7
theorem bx8_some {A0 A1 A2 A3 A4 A5 A6 A7 ρ : Type} {o : Option (A0 × A1 × A2 × A3 × A4 × A5 × A6 × A7)} {k : A0 → A1 → A2 → A3 → A4 → A5 → A6 → A7 → Option ρ} {r : ρ} (h : bx8 o k = some r) : ∃ a0 a1 a2 a3 a4 a5 a6 a7, o = some (a0, a1, a2, a3, a4, a5, a6, a7) ∧ k a0 a1 a2 a3 a4 a5 a6 a7 = some r := by
  cases o with
  | none => cases h
  | some z => exact ⟨z.1, z.2.1, z.2.2.1, z.2.2.2.1, z.2.2.2.2.1, z.2.2.2.2.2.1, z.2.2.2.2.2.2.1, z.2.2.2.2.2.2.2, rfl, h⟩
def bs8 {A0 A1 A2 A3 A4 A5 A6 A7 B ρ : Type} (o : Option ((A0 × A1 × A2 × A3 × A4 × A5 × A6 × A7) ⊕ B)) (k : A0 → A1 → A2 → A3 → A4 → A5 → A6 → A7 → Option ρ) (f : B → Option ρ) : Option ρ := match o with
  | none => none
  | some (.inl (a0, a1, a2, a3, a4, a5, a6, a7)) => k a0 a1 a2 a3 a4 a5 a6 a7
  | some (.inr b) => f b
theorem bs8_some {A0 A1 A2 A3 A4 A5 A6 A7 B ρ : Type} {o : Option ((A0 × A1 × A2 × A3 × A4 × A5 × A6 × A7) ⊕ B)} {k : A0 → A1 → A2 → A3 → A4 → A5 → A6 → A7 → Option ρ} {f : B → Option ρ} {r : ρ} (h : bs8 o k f = some r) : (∃ a0 a1 a2 a3 a4 a5 a6 a7, o = some (.inl (a0, a1, a2, a3, a4, a5, a6, a7)) ∧ k a0 a1 a2 a3 a4 a5 a6 a7 = some r) ∨ ∃ b, o = some (.inr b) ∧ f b = some r := by
  cases o with
  | none => cases h
  | some z =>
    cases z with
    | inl z => exact Or.inl ⟨z.1, z.2.1, z.2.2.1, z.2.2.2.1, z.2.2.2.2.1, z.2.2.2.2.2.1, z.2.2.2.2.2.2.1, z.2.2.2.2.2.2.2, rfl, h⟩
    | inr b => exact Or.inr ⟨b, rfl, h⟩
def bx9 {A0 A1 A2 A3 A4 A5 A6 A7 A8 ρ : Type} (o : Option (A0 × A1 × A2 × A3 × A4 × A5 × A6 × A7 × A8)) (k : A0 → A1 → A2 → A3 → A4 → A5 → A6 → A7 → A8 → Option ρ) : Option ρ := match o with
  | none => none
  | some (a0, a1, a2, a3, a4, a5, a6, a7, a8) => k a0 a1 a2 a3 a4 a5 a6 a7 a8
theorem bx9_some {A0 A1 A2 A3 A4 A5 A6 A7 A8 ρ : Type} {o : Option (A0 × A1 × A2 × A3 × A4 × A5 × A6 × A7 × A8)} {k : A0 → A1 → A2 → A3 → A4 → A5 → A6 → A7 → A8 → Option ρ} {r : ρ} (h : bx9 o k = some r) : ∃ a0 a1 a2 a3 a4 a5 a6 a7 a8, o = some (a0, a1, a2, a3, a4, a5, a6, a7, a8) ∧ k a0 a1 a2 a3 a4 a5 a6 a7 a8 = some r := by
  cases o with
  | none => cases h
  | some z => exact ⟨z.1, z.2.1, z.2.2.1, z.2.2.2.1, z.2.2.2.2.1, z.2.2.2.2.2.1, z.2.2.2.2.2.2.1, z.2.2.2.2.2.2.2.1, z.2.2.2.2.2.2.2.2, rfl, h⟩
def bs9 {A0 A1 A2 A3 A4 A5 A6 A7 A8 B ρ : Type} (o : Option ((A0 × A1 × A2 × A3 × A4 × A5 × A6 × A7 × A8) ⊕ B)) (k : A0 → A1 → A2 → A3 → A4 → A5 → A6 → A7 → A8 → Option ρ) (f : B → Option ρ) : Option ρ := match o with
  | none => none
  | some (.inl (a0, a1, a2, a3, a4, a5, a6, a7, a8)) => k a0 a1 a2 a3 a4 a5 a6 a7 a8
  | some (.inr b) => f b
theorem bs9_some {A0 A1 A2 A3 A4 A5 A6 A7 A8 B ρ : Type} {o : Option ((A0 × A1 × A2 × A3 × A4 × A5 × A6 × A7 × A8) ⊕ B)} {k : A0 → A1 → A2 → A3 → A4 → A5 → A6 → A7 → A8 → Option ρ} {f : B → Option ρ} {r : ρ} (h : bs9 o k f = some r) : (∃ a0 a1 a2 a3 a4 a5 a6 a7 a8, o = some (.inl (a0, a1, a2, a3, a4, a5, a6, a7, a8)) ∧ k a0 a1 a2 a3 a4 a5 a6 a7 a8 = some r) ∨ ∃ b, o = some (.inr b) ∧ f b = some r := by
  cases o with
  | none => cases h
  | some z =>
    cases z with
    | inl z => exact Or.inl ⟨z.1, z.2.1, z.2.2.1, z.2.2.2.1, z.2.2.2.2.1, z.2.2.2.2.2.1, z.2.2.2.2.2.2.1, z.2.2.2.2.2.2.2.1, z.2.2.2.2.2.2.2.2, rfl, h⟩
    | inr b => exact Or.inr ⟨b, rfl, h⟩
theorem if_split {ρ : Type} {c : Prop} {hdec : Decidable c} {E1 E2 : Option ρ} {r : ρ} (h : @ite (Option ρ) c hdec E1 E2 = some r) : (c ∧ E1 = some r) ∨ (¬ c ∧ E2 = some r) := by
  by_cases hc : c
  · rw [if_pos hc] at h
    exact Or.inl ⟨hc, h⟩
  · rw [if_neg hc] at h
    exact Or.inr ⟨hc, h⟩
theorem ifn_some {ρ : Type} {c : Prop} {hdec : Decidable c} {E : Option ρ} {r : ρ} (h : @ite (Option ρ) c hdec none E = some r) : ¬ c ∧ E = some r := by
  rcases if_split h with ⟨_, h⟩ | h
  · cases h
  · exact h
section GXD
variable {Γ : gC} {Ω : gO} {lay : List gk} {Q : State → Prop} {nL : Nat} {v : gV} {pc n : Nat} {lv : List (Nat × Value)} {st : List Value} {cc : ByteArray} {own : String} {ret : Option FieldType}
theorem gi_topI {x : Int32} {ρ : Type} {E : Int32 → Option ρ} {res : ρ} (h : bd x E = some res) (k : ∀ y : Int32, E y = some res → gx_G Γ Ω lay Q nL v pc lv (.int y :: st)) : gx_G Γ Ω lay Q nL v pc lv (.int x :: st) := k x h
theorem gi_topJ {x : Int64} {ρ : Type} {E : Int64 → Option ρ} {res : ρ} (h : bd x E = some res) (k : ∀ y : Int64, E y = some res → gx_G Γ Ω lay Q nL v pc lv (.long y :: st)) : gx_G Γ Ω lay Q nL v pc lv (.long x :: st) := k x h
theorem gi_virtI {C : String} {T : u_T} {N ci q idx d d' maxL k0 : Nat} {t0 : Nat → FieldType} {tm : List (Option Nat)} {y : MethodName} {cy : ByteArray} {rt : Option FieldType} {As : List Value} {r : Int32} {v1 : gV} {st0 : List Value} (hX : gx_X Γ Ω cc own nL ret) (hR : Γ.2.2.2.1 = gx_R d) (hc : gx_c ci C T N t0) (hq : lay[q]? = some (gk_o ci tm)) (hm : gx_mv C y cy maxL rt k0) (hw : Cond.methodLink own idx y ∈ gU) (hM : gx_M Γ.2.1 Ω lay y cy maxL rt d' (.ref (Ω.1 q) :: As) v (some (.int r)) v1) (hk : As.length = k0) (hdd : Nat.ble (d' + 1) d = true ∧ Nat.ble maxL 21 = true) (hst : Nat.ble (st.map fun v => v.category).sum 8 = true) (hd : decode cc pc = .ok (.invokevirtual idx, 3)) (hn : pc + 3 = n) (hst0 : st0 = As.reverse ++ .ref (Ω.1 q) :: st) (k : gx_G Γ Ω lay Q nL v1 n lv (.int r :: st)) : gx_G Γ Ω lay Q nL v pc lv st0 := gi_virt hX hR hc hq hm hw hM hk hdd hst hd hn hst0 k
theorem gi_statI {idx d d' maxL k0 : Nat} {y : MethodName} {cy : ByteArray} {rt : Option FieldType} {As : List Value} {r : Int32} {v1 : gV} {st0 : List Value} (hX : gx_X Γ Ω cc own nL ret) (hR : Γ.2.2.2.1 = gx_R d) (hm : gx_ms y cy maxL rt k0) (hw : Cond.methodLink own idx y ∈ gU) (hM : gx_M Γ.2.1 Ω lay y cy maxL rt d' As v (some (.int r)) v1) (hk : As.length = k0) (hdd : Nat.ble (d' + 1) d = true ∧ Nat.ble maxL 21 = true) (hst : Nat.ble (st.map fun v => v.category).sum 8 = true) (hd : decode cc pc = .ok (.invokestatic idx, 3)) (hn : pc + 3 = n) (hst0 : st0 = As.reverse ++ st) (k : gx_G Γ Ω lay Q nL v1 n lv (.int r :: st)) : gx_G Γ Ω lay Q nL v pc lv st0 := gi_stat hX hR hm hw hM hk hdd hst hd hn hst0 k
theorem gi_statNI {idx d d' maxL k0 : Nat} {host : String} {y : MethodName} {cy : ByteArray} {rt : Option FieldType} {As : List Value} {r : Int32} {v1 : gV} {st0 : List Value} (hX : gx_X Γ Ω cc own nL ret) (hR : Γ.2.2.2.1 = gx_R d) (hm : gx_ms y cy maxL rt k0) (hw : va_Nw (.methodLinkNest own idx y host) Γ.2.2.2.2.1) (hM : gx_M Γ.2.1 Ω lay y cy maxL rt d' As v (some (.int r)) v1) (hk : As.length = k0) (hdd : Nat.ble (d' + 1) d = true ∧ Nat.ble maxL 21 = true) (hst : Nat.ble (st.map fun v => v.category).sum 8 = true) (hd : decode cc pc = .ok (.invokestatic idx, 3)) (hn : pc + 3 = n) (hst0 : st0 = As.reverse ++ st) (k : gx_G Γ Ω lay Q nL v1 n lv (.int r :: st)) : gx_G Γ Ω lay Q nL v pc lv st0 := gi_statN hX hR hm hw hM hk hdd hst hd hn hst0 k
theorem gi_virtJ {C : String} {T : u_T} {N ci q idx d d' maxL k0 : Nat} {t0 : Nat → FieldType} {tm : List (Option Nat)} {y : MethodName} {cy : ByteArray} {rt : Option FieldType} {As : List Value} {r : Int64} {v1 : gV} {st0 : List Value} (hX : gx_X Γ Ω cc own nL ret) (hR : Γ.2.2.2.1 = gx_R d) (hc : gx_c ci C T N t0) (hq : lay[q]? = some (gk_o ci tm)) (hm : gx_mv C y cy maxL rt k0) (hw : Cond.methodLink own idx y ∈ gU) (hM : gx_M Γ.2.1 Ω lay y cy maxL rt d' (.ref (Ω.1 q) :: As) v (some (.long r)) v1) (hk : As.length = k0) (hdd : Nat.ble (d' + 1) d = true ∧ Nat.ble maxL 21 = true) (hst : Nat.ble (st.map fun v => v.category).sum 8 = true) (hd : decode cc pc = .ok (.invokevirtual idx, 3)) (hn : pc + 3 = n) (hst0 : st0 = As.reverse ++ .ref (Ω.1 q) :: st) (k : gx_G Γ Ω lay Q nL v1 n lv (.long r :: st)) : gx_G Γ Ω lay Q nL v pc lv st0 := gi_virt hX hR hc hq hm hw hM hk hdd hst hd hn hst0 k
theorem gi_statJ {idx d d' maxL k0 : Nat} {y : MethodName} {cy : ByteArray} {rt : Option FieldType} {As : List Value} {r : Int64} {v1 : gV} {st0 : List Value} (hX : gx_X Γ Ω cc own nL ret) (hR : Γ.2.2.2.1 = gx_R d) (hm : gx_ms y cy maxL rt k0) (hw : Cond.methodLink own idx y ∈ gU) (hM : gx_M Γ.2.1 Ω lay y cy maxL rt d' As v (some (.long r)) v1) (hk : As.length = k0) (hdd : Nat.ble (d' + 1) d = true ∧ Nat.ble maxL 21 = true) (hst : Nat.ble (st.map fun v => v.category).sum 8 = true) (hd : decode cc pc = .ok (.invokestatic idx, 3)) (hn : pc + 3 = n) (hst0 : st0 = As.reverse ++ st) (k : gx_G Γ Ω lay Q nL v1 n lv (.long r :: st)) : gx_G Γ Ω lay Q nL v pc lv st0 := gi_stat hX hR hm hw hM hk hdd hst hd hn hst0 k
theorem gi_statNJ {idx d d' maxL k0 : Nat} {host : String} {y : MethodName} {cy : ByteArray} {rt : Option FieldType} {As : List Value} {r : Int64} {v1 : gV} {st0 : List Value} (hX : gx_X Γ Ω cc own nL ret) (hR : Γ.2.2.2.1 = gx_R d) (hm : gx_ms y cy maxL rt k0) (hw : va_Nw (.methodLinkNest own idx y host) Γ.2.2.2.2.1) (hM : gx_M Γ.2.1 Ω lay y cy maxL rt d' As v (some (.long r)) v1) (hk : As.length = k0) (hdd : Nat.ble (d' + 1) d = true ∧ Nat.ble maxL 21 = true) (hst : Nat.ble (st.map fun v => v.category).sum 8 = true) (hd : decode cc pc = .ok (.invokestatic idx, 3)) (hn : pc + 3 = n) (hst0 : st0 = As.reverse ++ st) (k : gx_G Γ Ω lay Q nL v1 n lv (.long r :: st)) : gx_G Γ Ω lay Q nL v pc lv st0 := gi_statN hX hR hm hw hM hk hdd hst hd hn hst0 k
theorem gi_virtR {C : String} {T : u_T} {N ci q idx d d' maxL k0 : Nat} {t0 : Nat → FieldType} {tm : List (Option Nat)} {y : MethodName} {cy : ByteArray} {rt : Option FieldType} {As : List Value} {r : Nat} {v1 : gV} {st0 : List Value} (hX : gx_X Γ Ω cc own nL ret) (hR : Γ.2.2.2.1 = gx_R d) (hc : gx_c ci C T N t0) (hq : lay[q]? = some (gk_o ci tm)) (hm : gx_mv C y cy maxL rt k0) (hw : Cond.methodLink own idx y ∈ gU) (hM : gx_M Γ.2.1 Ω lay y cy maxL rt d' (.ref (Ω.1 q) :: As) v (some (.ref (Ω.1 r))) v1) (hk : As.length = k0) (hdd : Nat.ble (d' + 1) d = true ∧ Nat.ble maxL 21 = true) (hst : Nat.ble (st.map fun v => v.category).sum 8 = true) (hd : decode cc pc = .ok (.invokevirtual idx, 3)) (hn : pc + 3 = n) (hst0 : st0 = As.reverse ++ .ref (Ω.1 q) :: st) (k : gx_G Γ Ω lay Q nL v1 n lv (.ref (Ω.1 r) :: st)) : gx_G Γ Ω lay Q nL v pc lv st0 := gi_virt hX hR hc hq hm hw hM hk hdd hst hd hn hst0 k
theorem gi_statR {idx d d' maxL k0 : Nat} {y : MethodName} {cy : ByteArray} {rt : Option FieldType} {As : List Value} {r : Nat} {v1 : gV} {st0 : List Value} (hX : gx_X Γ Ω cc own nL ret) (hR : Γ.2.2.2.1 = gx_R d) (hm : gx_ms y cy maxL rt k0) (hw : Cond.methodLink own idx y ∈ gU) (hM : gx_M Γ.2.1 Ω lay y cy maxL rt d' As v (some (.ref (Ω.1 r))) v1) (hk : As.length = k0) (hdd : Nat.ble (d' + 1) d = true ∧ Nat.ble maxL 21 = true) (hst : Nat.ble (st.map fun v => v.category).sum 8 = true) (hd : decode cc pc = .ok (.invokestatic idx, 3)) (hn : pc + 3 = n) (hst0 : st0 = As.reverse ++ st) (k : gx_G Γ Ω lay Q nL v1 n lv (.ref (Ω.1 r) :: st)) : gx_G Γ Ω lay Q nL v pc lv st0 := gi_stat hX hR hm hw hM hk hdd hst hd hn hst0 k
theorem gi_statNR {idx d d' maxL k0 : Nat} {host : String} {y : MethodName} {cy : ByteArray} {rt : Option FieldType} {As : List Value} {r : Nat} {v1 : gV} {st0 : List Value} (hX : gx_X Γ Ω cc own nL ret) (hR : Γ.2.2.2.1 = gx_R d) (hm : gx_ms y cy maxL rt k0) (hw : va_Nw (.methodLinkNest own idx y host) Γ.2.2.2.2.1) (hM : gx_M Γ.2.1 Ω lay y cy maxL rt d' As v (some (.ref (Ω.1 r))) v1) (hk : As.length = k0) (hdd : Nat.ble (d' + 1) d = true ∧ Nat.ble maxL 21 = true) (hst : Nat.ble (st.map fun v => v.category).sum 8 = true) (hd : decode cc pc = .ok (.invokestatic idx, 3)) (hn : pc + 3 = n) (hst0 : st0 = As.reverse ++ st) (k : gx_G Γ Ω lay Q nL v1 n lv (.ref (Ω.1 r) :: st)) : gx_G Γ Ω lay Q nL v pc lv st0 := gi_statN hX hR hm hw hM hk hdd hst hd hn hst0 k
theorem gi_virtV {C : String} {T : u_T} {N ci q idx d d' maxL k0 : Nat} {t0 : Nat → FieldType} {tm : List (Option Nat)} {y : MethodName} {cy : ByteArray} {rt : Option FieldType} {As : List Value} {v1 : gV} {st0 : List Value} (hX : gx_X Γ Ω cc own nL ret) (hR : Γ.2.2.2.1 = gx_R d) (hc : gx_c ci C T N t0) (hq : lay[q]? = some (gk_o ci tm)) (hm : gx_mv C y cy maxL rt k0) (hw : Cond.methodLink own idx y ∈ gU) (hM : gx_M Γ.2.1 Ω lay y cy maxL rt d' (.ref (Ω.1 q) :: As) v none v1) (hk : As.length = k0) (hdd : Nat.ble (d' + 1) d = true ∧ Nat.ble maxL 21 = true) (hst : Nat.ble (st.map fun v => v.category).sum 8 = true) (hd : decode cc pc = .ok (.invokevirtual idx, 3)) (hn : pc + 3 = n) (hst0 : st0 = As.reverse ++ .ref (Ω.1 q) :: st) (k : gx_G Γ Ω lay Q nL v1 n lv (st)) : gx_G Γ Ω lay Q nL v pc lv st0 := gi_virt hX hR hc hq hm hw hM hk hdd hst hd hn hst0 k
theorem gi_statV {idx d d' maxL k0 : Nat} {y : MethodName} {cy : ByteArray} {rt : Option FieldType} {As : List Value} {v1 : gV} {st0 : List Value} (hX : gx_X Γ Ω cc own nL ret) (hR : Γ.2.2.2.1 = gx_R d) (hm : gx_ms y cy maxL rt k0) (hw : Cond.methodLink own idx y ∈ gU) (hM : gx_M Γ.2.1 Ω lay y cy maxL rt d' As v none v1) (hk : As.length = k0) (hdd : Nat.ble (d' + 1) d = true ∧ Nat.ble maxL 21 = true) (hst : Nat.ble (st.map fun v => v.category).sum 8 = true) (hd : decode cc pc = .ok (.invokestatic idx, 3)) (hn : pc + 3 = n) (hst0 : st0 = As.reverse ++ st) (k : gx_G Γ Ω lay Q nL v1 n lv (st)) : gx_G Γ Ω lay Q nL v pc lv st0 := gi_stat hX hR hm hw hM hk hdd hst hd hn hst0 k
theorem gi_statNV {idx d d' maxL k0 : Nat} {host : String} {y : MethodName} {cy : ByteArray} {rt : Option FieldType} {As : List Value} {v1 : gV} {st0 : List Value} (hX : gx_X Γ Ω cc own nL ret) (hR : Γ.2.2.2.1 = gx_R d) (hm : gx_ms y cy maxL rt k0) (hw : va_Nw (.methodLinkNest own idx y host) Γ.2.2.2.2.1) (hM : gx_M Γ.2.1 Ω lay y cy maxL rt d' As v none v1) (hk : As.length = k0) (hdd : Nat.ble (d' + 1) d = true ∧ Nat.ble maxL 21 = true) (hst : Nat.ble (st.map fun v => v.category).sum 8 = true) (hd : decode cc pc = .ok (.invokestatic idx, 3)) (hn : pc + 3 = n) (hst0 : st0 = As.reverse ++ st) (k : gx_G Γ Ω lay Q nL v1 n lv (st)) : gx_G Γ Ω lay Q nL v pc lv st0 := gi_statN hX hR hm hw hM hk hdd hst hd hn hst0 k
end GXD
/-! THE LAYOUTS. LX: the class's cells; LM: the reference's. -/
abbrev rR (r : Nat) : List Nat := [r + 5, r + 6, r + 7, r + 8, r + 9, r + 10, r + 11, r + 12, r + 13, r + 14]
abbrev rB (r : Nat) : List Nat := [r + 18, r + 20, r + 22, r + 24, r + 26, r + 28, r + 30, r + 32, r + 34, r + 36]
abbrev tmB (b : Nat) : List (Option Nat) := [some (b + 1), none]
abbrev tmR (r : Nat) : List (Option Nat) := [some 6, none, none, some (r + 1), some (r + 2), none, some (r + 4), some (r + 15), some (r + 16), some (r + 17), none, none, none, none, none, none]
abbrev tmS (q : Nat) : List (Option Nat) := [none, none, some (q + 1)]
abbrev tmT (t : Nat) : List (Option Nat) := [some (t + 1), none]
def gx_ride (r : Nat) : List gk := [gk_o 1 (tmR r), gk_i 8, gk_o 0 (tmB (r + 2)), gk_i 29, gk_r 5 (rR r)] ++ [gk_i 8, gk_i 8, gk_i 8, gk_i 8, gk_i 8, gk_i 8, gk_i 8, gk_i 8, gk_i 8, gk_i 8] ++ [gk_i 10, gk_i 10, gk_r 4 (rB r)] ++ (rB r).flatMap (fun b => [gk_o 0 (tmB b), gk_i 29])
def LX : List gk := [gk_o 7 [some 1, some 6, some 16, some 54, some 92, some 95, some 99, some 108, some 117, none], gk_r 2 [2, 4], gk_o 5 (tmT 2), gk_i 39, gk_o 5 (tmT 4), gk_i 16,
  gk_o 6 [none, some 7, some 8, some 9, some 10, some 11, some 12, some 13, some 15, none, none, none], gk_i 8, gk_i 8, gk_i 8, gk_i 8, gk_i 10, gk_i 10, gk_o 0 (tmB 13), gk_i 29, gk_i 8] ++ gx_ride 16 ++ gx_ride 54 ++
  [gk_o 4 [some 93, some 94, none, none], gk_l 1024, gk_i 1024, gk_o 3 [some 96, some 97, some 98, none], gk_i 8, gk_i 8, gk_i 8, gk_r 3 [100, 102, 104, 106], gk_o 2 (tmS 100), gk_i 60, gk_o 2 (tmS 102), gk_i 60, gk_o 2 (tmS 104), gk_i 60, gk_o 2 (tmS 106), gk_i 60, gk_r 5 [109, 110, 111, 112, 113, 114, 115, 116], gk_i 9, gk_i 9, gk_i 9, gk_i 9, gk_i 9, gk_i 9, gk_i 9, gk_i 9, gk_i 11]
def txN (t : Nat) : Nat := if t = 2 then 39 else 16
def kB (b : Nat) : Bool := [13, 18, 56, 34, 36, 38, 40, 42, 44, 46, 48, 50, 52, 72, 74, 76, 78, 80, 82, 84, 86, 88, 90].contains b
def kR (r : Nat) : Bool := [16, 54].contains r
def kS (q : Nat) : Bool := [100, 102, 104, 106].contains q
def kT (t : Nat) : Bool := [2, 4].contains t
def kI (n q : Nat) : Bool := decide (LX[q]? = some (gk_i n))
theorem kall {l : List Nat} {P : Nat → Bool} (h : l.all P = true) {q : Nat} (hq : l.contains q = true) : P q = true := List.all_eq_true.mp h q (List.contains_iff_mem.mp hq)
theorem ly_B {b : Nat} (h : kB b = true) : LX[b]? = some (gk_o 0 (tmB b)) := of_decide_eq_true (kall (P := fun b => decide (LX[b]? = some (gk_o 0 (tmB b)))) rfl h)
theorem ly_Bk {b : Nat} (h : kB b = true) : LX[b + 1]? = some (gk_i 29) := of_decide_eq_true (kall (P := fun b => decide (LX[b + 1]? = some (gk_i 29))) rfl h)
theorem ly_R {r : Nat} (h : kR r = true) : LX[r]? = some (gk_o 1 (tmR r)) := of_decide_eq_true (kall (P := fun r => decide (LX[r]? = some (gk_o 1 (tmR r)))) rfl h)
theorem ly_R1 {r : Nat} (h : kR r = true) : LX[r + 1]? = some (gk_i 8) := of_decide_eq_true (kall (P := fun r => decide (LX[r + 1]? = some (gk_i 8))) rfl h)
theorem kb_R {r : Nat} (h : kR r = true) : kB (r + 2) = true := kall (P := fun r => kB (r + 2)) rfl h
theorem ly_R4 {r : Nat} (h : kR r = true) : LX[r + 4]? = some (gk_r 5 (rR r)) := of_decide_eq_true (kall (P := fun r => decide (LX[r + 4]? = some (gk_r 5 (rR r)))) rfl h)
theorem ly_R15 {r : Nat} (h : kR r = true) : LX[r + 15]? = some (gk_i 10) := of_decide_eq_true (kall (P := fun r => decide (LX[r + 15]? = some (gk_i 10))) rfl h)
theorem ly_R16 {r : Nat} (h : kR r = true) : LX[r + 16]? = some (gk_i 10) := of_decide_eq_true (kall (P := fun r => decide (LX[r + 16]? = some (gk_i 10))) rfl h)
theorem ly_R17 {r : Nat} (h : kR r = true) : LX[r + 17]? = some (gk_r 4 (rB r)) := of_decide_eq_true (kall (P := fun r => decide (LX[r + 17]? = some (gk_r 4 (rB r)))) rfl h)
theorem ly_S {q : Nat} (h : kS q = true) : LX[q]? = some (gk_o 2 (tmS q)) := of_decide_eq_true (kall (P := fun q => decide (LX[q]? = some (gk_o 2 (tmS q)))) rfl h)
theorem ly_Sk {q : Nat} (h : kS q = true) : LX[q + 1]? = some (gk_i 60) := of_decide_eq_true (kall (P := fun q => decide (LX[q + 1]? = some (gk_i 60))) rfl h)
theorem ly_T {t : Nat} (h : kT t = true) : LX[t]? = some (gk_o 5 (tmT t)) := of_decide_eq_true (kall (P := fun t => decide (LX[t]? = some (gk_o 5 (tmT t)))) rfl h)
theorem ly_Tk {t : Nat} (h : kT t = true) : LX[t + 1]? = some (gk_i (txN t)) := of_decide_eq_true (kall (P := fun t => decide (LX[t + 1]? = some (gk_i (txN t)))) rfl h)
theorem ly_X7 : LX[0]? = some (gk_o 7 [some 1, some 6, some 16, some 54, some 92, some 95, some 99, some 108, some 117, none]) := rfl
theorem ly_X6 : LX[6]? = some (gk_o 6 [none, some 7, some 8, some 9, some 10, some 11, some 12, some 13, some 15, none, none, none]) := rfl
theorem ly_X4 : LX[92]? = some (gk_o 4 [some 93, some 94, none, none]) := rfl
theorem ly_X3 : LX[95]? = some (gk_o 3 [some 96, some 97, some 98, none]) := rfl
theorem ly_1 : LX[1]? = some (gk_r 2 [2, 4]) := rfl
theorem ly_99 : LX[99]? = some (gk_r 3 [100, 102, 104, 106]) := rfl
theorem ly_108 : LX[108]? = some (gk_r 5 [109, 110, 111, 112, 113, 114, 115, 116]) := rfl
theorem ly_93 : LX[93]? = some (gk_l 1024) := rfl
theorem ly_7 : LX[7]? = some (gk_i 8) := rfl
theorem ly_8 : LX[8]? = some (gk_i 8) := rfl
theorem ly_9 : LX[9]? = some (gk_i 8) := rfl
theorem ly_10 : LX[10]? = some (gk_i 8) := rfl
theorem ly_11 : LX[11]? = some (gk_i 10) := rfl
theorem ly_12 : LX[12]? = some (gk_i 10) := rfl
theorem ly_15 : LX[15]? = some (gk_i 8) := rfl
theorem ly_94 : LX[94]? = some (gk_i 1024) := rfl
theorem ly_96 : LX[96]? = some (gk_i 8) := rfl
theorem ly_97 : LX[97]? = some (gk_i 8) := rfl
theorem ly_98 : LX[98]? = some (gk_i 8) := rfl
theorem ly_117 : LX[117]? = some (gk_i 11) := rfl
abbrev tmM : List (Option Nat) := [some 1, some 2, some 3, some 4, none, some 5, some 6, none, some 7, none, some 8, some 9, some 10, none, some 11, some 12, none, none, some 13, some 14, some 15, some 16, some 17, some 18, none, none, none, some 19, some 20, none]
def LM : List gk := [gk_o 8 tmM, gk_i 4, gk_i 4, gk_i 240, gk_i 60, gk_i 80, gk_i 2, gk_i 32, gk_i 16, gk_i 8, gk_i 3, gk_i 8, gk_i 8, gk_i 29, gk_i 80, gk_i 80, gk_i 10, gk_i 290, gk_i 3, gk_i 24, gk_i 72]
theorem ly_X8 : LM[0]? = some (gk_o 8 tmM) := rfl
theorem lm_1 : LM[1]? = some (gk_i 4) := rfl
theorem lm_2 : LM[2]? = some (gk_i 4) := rfl
theorem lm_3 : LM[3]? = some (gk_i 240) := rfl
theorem lm_4 : LM[4]? = some (gk_i 60) := rfl
theorem lm_5 : LM[5]? = some (gk_i 80) := rfl
theorem lm_6 : LM[6]? = some (gk_i 2) := rfl
theorem lm_7 : LM[7]? = some (gk_i 32) := rfl
theorem lm_8 : LM[8]? = some (gk_i 16) := rfl
theorem lm_9 : LM[9]? = some (gk_i 8) := rfl
theorem lm_10 : LM[10]? = some (gk_i 3) := rfl
theorem lm_11 : LM[11]? = some (gk_i 8) := rfl
theorem lm_12 : LM[12]? = some (gk_i 8) := rfl
theorem lm_13 : LM[13]? = some (gk_i 29) := rfl
theorem lm_14 : LM[14]? = some (gk_i 80) := rfl
theorem lm_15 : LM[15]? = some (gk_i 80) := rfl
theorem lm_16 : LM[16]? = some (gk_i 10) := rfl
theorem lm_17 : LM[17]? = some (gk_i 290) := rfl
theorem lm_18 : LM[18]? = some (gk_i 3) := rfl
theorem lm_19 : LM[19]? = some (gk_i 24) := rfl
theorem lm_20 : LM[20]? = some (gk_i 72) := rfl
end
section
def f_X0_become (b : Nat) (q1 : Nat) (v : gV) : Option (gV) := (if gcp (0 : Int32) (0 : Int32) (v.1 q1 1) 29 29 = true then bd (sA v (b + 1) (va_cpy (v.1 (q1 + 1)) (v.1 (b + 1)) ((0 : Int32)).toNatClampNeg ((0 : Int32)).toNatClampNeg ((v.1 q1 1)).toNatClampNeg)) (fun v1 => bd (sI v1 b 1 (v1.1 q1 1)) (fun v2 => some v2)) else none)
def f_X0_putAtBottom (b : Nat) (x1 : Int32) (v : gV) : Option (gV) := (if (nI 29) ≤ (v.1 b 1) then some v else (if gin (v.1 b 1) 29 = true then bd (sI v (b + 1) ((v.1 b 1)).toNatClampNeg x1) (fun v1 => bd (sI v1 b 1 ((v1.1 b 1) + (1 : Int32))) (fun v2 => some v2)) else none))
def f_X0_putOnTop (b : Nat) (x1 : Int32) (v : gV) : Option (gV) := (if (nI 29) ≤ (v.1 b 1) then some v else (if gcp (0 : Int32) (1 : Int32) (v.1 b 1) 29 29 = true then bd (sA v (b + 1) (va_cpy (v.1 (b + 1)) (v.1 (b + 1)) ((0 : Int32)).toNatClampNeg ((1 : Int32)).toNatClampNeg ((v.1 b 1)).toNatClampNeg)) (fun v1 => (if gin (0 : Int32) 29 = true then bd (sI v1 (b + 1) ((0 : Int32)).toNatClampNeg x1) (fun v2 => bd (sI v2 b 1 ((v2.1 b 1) + (1 : Int32))) (fun v3 => some v3)) else none)) else none))
def f_X0_placeOf_B2 (b : Nat) (x1 : Int32) (x2 : Int32) (v : gV) : Option ((gV × Int32) ⊕ ((gV) ⊕ (Int32 × gV))) := (if (v.1 b 1) ≤ x2 then some (.inr (.inl v)) else (if gin x2 29 = true then (if (v.1 (b + 1) (x2).toNatClampNeg) = x1 then some (.inr (.inr (x2, v))) else some (.inl (v, (x2 + (1 : Int32))))) else none))
def f_X0_placeOf (b : Nat) (x1 : Int32) (v : gV) : Option (Int32 × gV) := bs1 (lp (fun a : gV × Int32 => f_X0_placeOf_B2 b x1 a.2 a.1) fu (v, (0 : Int32))) (fun v1 => some ((-1 : Int32), v1)) (fun q => some q)
def f_X0_takeOut_B24 (b : Nat) (x2 : Int32) (v : gV) : Option ((gV × Int32) ⊕ (gV)) := (if (v.1 b 1) ≤ x2 then some (.inr v) else (if gin (x2 + (1 : Int32)) 29 = true then (if gin x2 29 = true then bd (sI v (b + 1) (x2).toNatClampNeg (v.1 (b + 1) ((x2 + (1 : Int32))).toNatClampNeg)) (fun v1 => some (.inl (v1, (x2 + (1 : Int32))))) else none) else none))
def f_X0_takeOut (b : Nat) (x1 : Int32) (v : gV) : Option (gV) := (if x1 < (0 : Int32) then some v else (if (v.1 b 1) ≤ x1 then some v else bd (sI v b 1 ((v.1 b 1) - (1 : Int32))) (fun v1 => bx1 (lp (fun a : gV × Int32 => f_X0_takeOut_B24 b a.2 a.1) fu (v1, x1)) (fun v2 => some v2))))
set_option maxRecDepth 20000 in
theorem t_X0_become {Γ : gC} {Ω : gO} {v0 : gV} (hX : gx_X Γ Ω cX0_become RX0 2 (none)) (hR : Γ.2.2.2.1 = gx_R 1) (b : Nat) (hb : kB b = true) (q1 : Nat) (hq1 : kB q1 = true) (v : gV) (h : f_X0_become b q1 v = some v0) : gx_G Γ Ω LX (gx_Q Γ Ω LX none v0) 2 v 0 [(0, .ref (Ω.1 b)), (1, .ref (Ω.1 q1))] [] := by
  rw [f_X0_become] at h
  refine gi_aload_n (n := 1) hX 1 dX0_become_0 rfl rfl rfl ?_
  refine gi_getR (n := 4) hX 0 kc_X0 (ly_B hq1) rfl rfl fl_X0_9 dX0_become_1 rfl ?_
  refine gi_iconst (x := (0 : Int32)) (n := 5) hX rfl dX0_become_4 rfl ?_
  refine gi_aload_n (n := 6) hX 0 dX0_become_5 rfl rfl rfl ?_
  refine gi_getR (n := 9) hX 0 kc_X0 (ly_B hb) rfl rfl fl_X0_9 dX0_become_6 rfl ?_
  refine gi_iconst (x := (0 : Int32)) (n := 10) hX rfl dX0_become_9 rfl ?_
  refine gi_aload_n (n := 11) hX 1 dX0_become_10 rfl rfl rfl ?_
  refine gi_getI (n := 14) hX 1 kc_X0 (ly_B hq1) rfl rfl fl_X0_15 dX0_become_11 rfl ?_
  refine gi_copy (d := 0) (st := []) (n := 17) hX (ly_Bk hq1) (ly_Bk hb) ml_X0_19 w_nat w_sta w_sys hR rfl dX0_become_14 rfl h (fun v1 h => ?_)
theorem m_X0_become (l : Launch) (Ω : gO) (b : Nat) (hb : kB b = true) (q1 : Nat) (hq1 : kB q1 = true) (v : gV) {v0 : gV} (h : f_X0_become b q1 v = some v0) : gx_M l Ω LX yX0_become cX0_become 2 (none) 1 [.ref (Ω.1 b), .ref (Ω.1 q1)] v none v0 := gx_start (lv := [(0, .ref (Ω.1 b)), (1, .ref (Ω.1 q1))]) (by decide +kernel) (Nat.le_of_ble_eq_true rfl) rfl (fun Γ _ hR hX => t_X0_become hX hR b hb q1 hq1 v h)
set_option maxRecDepth 20000 in
theorem t_X0_putAtBottom {Γ : gC} {Ω : gO} {v0 : gV} (hX : gx_X Γ Ω cX0_putAtBottom RX0 2 (none)) (hR : Γ.2.2.2.1 = gx_R 0) (b : Nat) (hb : kB b = true) (x1 : Int32) (v : gV) (h : f_X0_putAtBottom b x1 v = some v0) : gx_G Γ Ω LX (gx_Q Γ Ω LX none v0) 2 v 0 [(0, .ref (Ω.1 b)), (1, .int x1)] [] := by
  rw [f_X0_putAtBottom] at h
  refine gi_aload_n (n := 1) hX 0 dX0_putAtBottom_0 rfl rfl rfl ?_
  refine gi_getI (n := 4) hX 1 kc_X0 (ly_B hb) rfl rfl fl_X0_15 dX0_putAtBottom_1 rfl ?_
  refine gi_aload_n (n := 5) hX 0 dX0_putAtBottom_4 rfl rfl rfl ?_
  refine gi_getR (n := 8) hX 0 kc_X0 (ly_B hb) rfl rfl fl_X0_9 dX0_putAtBottom_5 rfl ?_
  refine gi_ilen (n := 9) hX (ly_Bk hb) dX0_putAtBottom_8 rfl ?_
  refine gi_icmp_ge (tgt := 32) (n := 12) hX dX0_putAtBottom_9 rfl rfl h (fun h => ?_) (fun h => ?_)
  · exact gi_vret hX rfl dX0_putAtBottom_32 h
  · refine gi_aload_n (n := 13) hX 0 dX0_putAtBottom_12 rfl rfl rfl ?_
    refine gi_getR (n := 16) hX 0 kc_X0 (ly_B hb) rfl rfl fl_X0_9 dX0_putAtBottom_13 rfl ?_
    refine gi_aload_n (n := 17) hX 0 dX0_putAtBottom_16 rfl rfl rfl ?_
    refine gi_getI (n := 20) hX 1 kc_X0 (ly_B hb) rfl rfl fl_X0_15 dX0_putAtBottom_17 rfl ?_
    refine gi_iload_n (n := 21) hX 1 dX0_putAtBottom_20 rfl rfl rfl ?_
    refine gi_iast (n := 22) hX (ly_Bk hb) dX0_putAtBottom_21 rfl h (fun v1 h => ?_)
    refine gi_aload_n (n := 23) hX 0 dX0_putAtBottom_22 rfl rfl rfl ?_
    refine gi_dup (n := 24) hX rfl dX0_putAtBottom_23 rfl ?_
    refine gi_getI (n := 27) hX 1 kc_X0 (ly_B hb) rfl rfl fl_X0_15 dX0_putAtBottom_24 rfl ?_
    refine gi_iconst (x := (1 : Int32)) (n := 28) hX rfl dX0_putAtBottom_27 rfl ?_
    refine gi_iadd (n := 29) hX dX0_putAtBottom_28 rfl ?_
    refine gi_putI (n := 32) hX 1 kc_X0 (ly_B hb) rfl rfl fl_X0_15 rfl rfl dX0_putAtBottom_29 rfl h (fun v2 h => ?_)
    exact gi_vret hX rfl dX0_putAtBottom_32 h
theorem m_X0_putAtBottom (l : Launch) (Ω : gO) (b : Nat) (hb : kB b = true) (x1 : Int32) (v : gV) {v0 : gV} (h : f_X0_putAtBottom b x1 v = some v0) : gx_M l Ω LX yX0_putAtBottom cX0_putAtBottom 2 (none) 0 [.ref (Ω.1 b), .int x1] v none v0 := gx_start (lv := [(0, .ref (Ω.1 b)), (1, .int x1)]) (by decide +kernel) (Nat.le_of_ble_eq_true rfl) rfl (fun Γ _ hR hX => t_X0_putAtBottom hX hR b hb x1 v h)
set_option maxRecDepth 20000 in
theorem t_X0_putOnTop {Γ : gC} {Ω : gO} {v0 : gV} (hX : gx_X Γ Ω cX0_putOnTop RX0 2 (none)) (hR : Γ.2.2.2.1 = gx_R 1) (b : Nat) (hb : kB b = true) (x1 : Int32) (v : gV) (h : f_X0_putOnTop b x1 v = some v0) : gx_G Γ Ω LX (gx_Q Γ Ω LX none v0) 2 v 0 [(0, .ref (Ω.1 b)), (1, .int x1)] [] := by
  rw [f_X0_putOnTop] at h
  refine gi_aload_n (n := 1) hX 0 dX0_putOnTop_0 rfl rfl rfl ?_
  refine gi_getI (n := 4) hX 1 kc_X0 (ly_B hb) rfl rfl fl_X0_15 dX0_putOnTop_1 rfl ?_
  refine gi_aload_n (n := 5) hX 0 dX0_putOnTop_4 rfl rfl rfl ?_
  refine gi_getR (n := 8) hX 0 kc_X0 (ly_B hb) rfl rfl fl_X0_9 dX0_putOnTop_5 rfl ?_
  refine gi_ilen (n := 9) hX (ly_Bk hb) dX0_putOnTop_8 rfl ?_
  refine gi_icmp_ge (tgt := 46) (n := 12) hX dX0_putOnTop_9 rfl rfl h (fun h => ?_) (fun h => ?_)
  · exact gi_vret hX rfl dX0_putOnTop_46 h
  · refine gi_aload_n (n := 13) hX 0 dX0_putOnTop_12 rfl rfl rfl ?_
    refine gi_getR (n := 16) hX 0 kc_X0 (ly_B hb) rfl rfl fl_X0_9 dX0_putOnTop_13 rfl ?_
    refine gi_iconst (x := (0 : Int32)) (n := 17) hX rfl dX0_putOnTop_16 rfl ?_
    refine gi_aload_n (n := 18) hX 0 dX0_putOnTop_17 rfl rfl rfl ?_
    refine gi_getR (n := 21) hX 0 kc_X0 (ly_B hb) rfl rfl fl_X0_9 dX0_putOnTop_18 rfl ?_
    refine gi_iconst (x := (1 : Int32)) (n := 22) hX rfl dX0_putOnTop_21 rfl ?_
    refine gi_aload_n (n := 23) hX 0 dX0_putOnTop_22 rfl rfl rfl ?_
    refine gi_getI (n := 26) hX 1 kc_X0 (ly_B hb) rfl rfl fl_X0_15 dX0_putOnTop_23 rfl ?_
    refine gi_copy (d := 0) (st := []) (n := 29) hX (ly_Bk hb) (ly_Bk hb) ml_X0_19 w_nat w_sta w_sys hR rfl dX0_putOnTop_26 rfl h (fun v1 h => ?_)
theorem m_X0_putOnTop (l : Launch) (Ω : gO) (b : Nat) (hb : kB b = true) (x1 : Int32) (v : gV) {v0 : gV} (h : f_X0_putOnTop b x1 v = some v0) : gx_M l Ω LX yX0_putOnTop cX0_putOnTop 2 (none) 1 [.ref (Ω.1 b), .int x1] v none v0 := gx_start (lv := [(0, .ref (Ω.1 b)), (1, .int x1)]) (by decide +kernel) (Nat.le_of_ble_eq_true rfl) rfl (fun Γ _ hR hX => t_X0_putOnTop hX hR b hb x1 v h)
set_option maxRecDepth 20000 in
theorem t_X0_placeOf_B2 {Γ : gC} {Ω : gO} {r0 : Int32} {v0 : gV} {o : (gV × Int32) ⊕ ((gV) ⊕ (Int32 × gV))} (hX : gx_X Γ Ω cX0_placeOf RX0 3 (some .int)) (hR : Γ.2.2.2.1 = gx_R 0) (b : Nat) (hb : kB b = true) (x1 : Int32) (x2 : Int32) (v : gV) (h : f_X0_placeOf_B2 b x1 x2 v = some o) (hc : ∀ c0 c1, o = .inl (c0, c1) → gx_G Γ Ω LX (gx_Q Γ Ω LX (some (.int r0)) v0) 3 c0 2 [(0, .ref (Ω.1 b)), (1, .int x1), (2, .int c1)] []) (hz : ∀ z0, o = .inr (.inl z0) → gx_G Γ Ω LX (gx_Q Γ Ω LX (some (.int r0)) v0) 3 z0 28 [] []) (hr : ∀ q0 q1, o = .inr (.inr (q0, q1)) → some (q0, q1) = some (r0, v0)) : gx_G Γ Ω LX (gx_Q Γ Ω LX (some (.int r0)) v0) 3 v 2 [(0, .ref (Ω.1 b)), (1, .int x1), (2, .int x2)] [] := by
  rw [f_X0_placeOf_B2] at h
  refine gi_iload_n (n := 3) hX 2 dX0_placeOf_2 rfl rfl rfl ?_
  refine gi_aload_n (n := 4) hX 0 dX0_placeOf_3 rfl rfl rfl ?_
  refine gi_getI (n := 7) hX 1 kc_X0 (ly_B hb) rfl rfl fl_X0_15 dX0_placeOf_4 rfl ?_
  refine gi_icmp_ge (tgt := 28) (n := 10) hX dX0_placeOf_7 rfl rfl h (fun h => ?_) (fun h => ?_)
  · refine gi_sub [] rfl ?_
    exact hz _ (Option.some.inj h).symm
  · refine gi_aload_n (n := 11) hX 0 dX0_placeOf_10 rfl rfl rfl ?_
    refine gi_getR (n := 14) hX 0 kc_X0 (ly_B hb) rfl rfl fl_X0_9 dX0_placeOf_11 rfl ?_
    refine gi_iload_n (n := 15) hX 2 dX0_placeOf_14 rfl rfl rfl ?_
    refine gi_iald (n := 16) hX (ly_Bk hb) dX0_placeOf_15 rfl h (fun h => ?_)
    refine gi_iload_n (n := 17) hX 1 dX0_placeOf_16 rfl rfl rfl ?_
    refine gi_icmp_ne (tgt := 22) (n := 20) hX dX0_placeOf_17 rfl rfl h (fun h => ?_) (fun h => ?_)
    · refine gi_iinc (z := (1 : Int32)) (n := 25) hX 2 [(2, .int (x2 + (1 : Int32))), (0, .ref (Ω.1 b)), (1, .int x1)] dX0_placeOf_22 rfl rfl rfl rfl rfl rfl ?_
      refine gi_goto (n := 2) hX dX0_placeOf_25 rfl ?_
      refine gi_sub [1, 2, 0] rfl ?_
      exact hc _ _ (Option.some.inj h).symm
    · refine gi_iload_n (n := 21) hX 2 dX0_placeOf_20 rfl rfl rfl ?_
      exact gi_iret hX rfl dX0_placeOf_21 (hr _ _ (Option.some.inj h).symm)
set_option maxRecDepth 20000 in
theorem t_X0_placeOf {Γ : gC} {Ω : gO} {r0 : Int32} {v0 : gV} (hX : gx_X Γ Ω cX0_placeOf RX0 3 (some .int)) (hR : Γ.2.2.2.1 = gx_R 0) (b : Nat) (hb : kB b = true) (x1 : Int32) (v : gV) (h : f_X0_placeOf b x1 v = some (r0, v0)) : gx_G Γ Ω LX (gx_Q Γ Ω LX (some (.int r0)) v0) 3 v 0 [(0, .ref (Ω.1 b)), (1, .int x1)] [] := by
  rw [f_X0_placeOf] at h
  refine gi_iconst (x := (0 : Int32)) (n := 1) hX rfl dX0_placeOf_0 rfl ?_
  refine gi_istore_n (n := 2) hX [(2, .int (0 : Int32)), (0, .ref (Ω.1 b)), (1, .int x1)] dX0_placeOf_1 rfl rfl rfl rfl ?_
  refine gi_sub [1, 2, 0] rfl ?_
  have key := lp_ind (f := (fun a : gV × Int32 => f_X0_placeOf_B2 b x1 a.2 a.1)) (P := (fun a : gV × Int32 => gx_G Γ Ω LX (gx_Q Γ Ω LX (some (.int r0)) v0) 3 a.1 2 [(0, .ref (Ω.1 b)), (1, .int x1), (2, .int a.2)] [])) (Z := (fun w : (gV) ⊕ (Int32 × gV) => Sum.elim (fun z : gV => gx_G Γ Ω LX (gx_Q Γ Ω LX (some (.int r0)) v0) 3 z 28 [] []) (fun q => some q = some (r0, v0)) w)) (fun a o h hc hz => t_X0_placeOf_B2 hX hR b hb x1 a.2 a.1 h (fun c0 c1 e => hc (c0, c1) e) (fun z0 e => hz (.inl z0) e) (fun q0 q1 e => hz (.inr (q0, q1)) e)) fu
  rcases bs1_some h with ⟨v1, e0, h⟩ | ⟨q, e0, h⟩
  · refine key (v, (0 : Int32)) _ e0 ?_
    show gx_G Γ Ω LX (gx_Q Γ Ω LX (some (.int r0)) v0) 3 v1 28 [] []
    refine gi_iconst (x := (-1 : Int32)) (n := 29) hX rfl dX0_placeOf_28 rfl ?_
    exact gi_iret hX rfl dX0_placeOf_29 h
  · refine key (v, (0 : Int32)) _ e0 ?_
    show some q = some (r0, v0)
    exact h
theorem m_X0_placeOf (l : Launch) (Ω : gO) (b : Nat) (hb : kB b = true) (x1 : Int32) (v : gV) {r0 : Int32} {v0 : gV} (h : f_X0_placeOf b x1 v = some (r0, v0)) : gx_M l Ω LX yX0_placeOf cX0_placeOf 3 (some .int) 0 [.ref (Ω.1 b), .int x1] v (some (.int r0)) v0 := gx_start (lv := [(0, .ref (Ω.1 b)), (1, .int x1)]) (by decide +kernel) (Nat.le_of_ble_eq_true rfl) rfl (fun Γ _ hR hX => t_X0_placeOf hX hR b hb x1 v h)
set_option maxRecDepth 20000 in
theorem t_X0_takeOut_B24 {Γ : gC} {Ω : gO} {v0 : gV} {o : (gV × Int32) ⊕ (gV)} (hX : gx_X Γ Ω cX0_takeOut RX0 3 (none)) (hR : Γ.2.2.2.1 = gx_R 0) (b : Nat) (hb : kB b = true) (x2 : Int32) (v : gV) (h : f_X0_takeOut_B24 b x2 v = some o) (hc : ∀ c0 c1, o = .inl (c0, c1) → gx_G Γ Ω LX (gx_Q Γ Ω LX none v0) 3 c0 24 [(0, .ref (Ω.1 b)), (2, .int c1)] []) (hz : ∀ z0, o = .inr z0 → gx_G Γ Ω LX (gx_Q Γ Ω LX none v0) 3 z0 52 [] []) : gx_G Γ Ω LX (gx_Q Γ Ω LX none v0) 3 v 24 [(0, .ref (Ω.1 b)), (2, .int x2)] [] := by
  rw [f_X0_takeOut_B24] at h
  refine gi_iload_n (n := 25) hX 1 dX0_takeOut_24 rfl rfl rfl ?_
  refine gi_aload_n (n := 26) hX 0 dX0_takeOut_25 rfl rfl rfl ?_
  refine gi_getI (n := 29) hX 1 kc_X0 (ly_B hb) rfl rfl fl_X0_15 dX0_takeOut_26 rfl ?_
  refine gi_icmp_ge (tgt := 52) (n := 32) hX dX0_takeOut_29 rfl rfl h (fun h => ?_) (fun h => ?_)
  · refine gi_sub [] rfl ?_
    exact hz _ (Option.some.inj h).symm
  · refine gi_aload_n (n := 33) hX 0 dX0_takeOut_32 rfl rfl rfl ?_
    refine gi_getR (n := 36) hX 0 kc_X0 (ly_B hb) rfl rfl fl_X0_9 dX0_takeOut_33 rfl ?_
    refine gi_iload_n (n := 37) hX 1 dX0_takeOut_36 rfl rfl rfl ?_
    refine gi_aload_n (n := 38) hX 0 dX0_takeOut_37 rfl rfl rfl ?_
    refine gi_getR (n := 41) hX 0 kc_X0 (ly_B hb) rfl rfl fl_X0_9 dX0_takeOut_38 rfl ?_
    refine gi_iload_n (n := 42) hX 1 dX0_takeOut_41 rfl rfl rfl ?_
    refine gi_iconst (x := (1 : Int32)) (n := 43) hX rfl dX0_takeOut_42 rfl ?_
    refine gi_iadd (n := 44) hX dX0_takeOut_43 rfl ?_
    refine gi_iald (n := 45) hX (ly_Bk hb) dX0_takeOut_44 rfl h (fun h => ?_)
    refine gi_iast (n := 46) hX (ly_Bk hb) dX0_takeOut_45 rfl h (fun v1 h => ?_)
    refine gi_iinc (z := (1 : Int32)) (n := 49) hX 1 [(2, .int (x2 + (1 : Int32))), (0, .ref (Ω.1 b))] dX0_takeOut_46 rfl rfl rfl rfl rfl rfl ?_
    refine gi_goto (n := 24) hX dX0_takeOut_49 rfl ?_
    refine gi_sub [1, 0] rfl ?_
    exact hc _ _ (Option.some.inj h).symm
set_option maxRecDepth 20000 in
theorem t_X0_takeOut {Γ : gC} {Ω : gO} {v0 : gV} (hX : gx_X Γ Ω cX0_takeOut RX0 3 (none)) (hR : Γ.2.2.2.1 = gx_R 0) (b : Nat) (hb : kB b = true) (x1 : Int32) (v : gV) (h : f_X0_takeOut b x1 v = some v0) : gx_G Γ Ω LX (gx_Q Γ Ω LX none v0) 3 v 0 [(0, .ref (Ω.1 b)), (1, .int x1)] [] := by
  rw [f_X0_takeOut] at h
  refine gi_iload_n (n := 1) hX 1 dX0_takeOut_0 rfl rfl rfl ?_
  refine gi_if_lt (tgt := 52) (n := 4) hX dX0_takeOut_1 rfl rfl h (fun h => ?_) (fun h => ?_)
  · exact gi_vret hX rfl dX0_takeOut_52 h
  · refine gi_iload_n (n := 5) hX 1 dX0_takeOut_4 rfl rfl rfl ?_
    refine gi_aload_n (n := 6) hX 0 dX0_takeOut_5 rfl rfl rfl ?_
    refine gi_getI (n := 9) hX 1 kc_X0 (ly_B hb) rfl rfl fl_X0_15 dX0_takeOut_6 rfl ?_
    refine gi_icmp_ge (tgt := 52) (n := 12) hX dX0_takeOut_9 rfl rfl h (fun h => ?_) (fun h => ?_)
    · exact gi_vret hX rfl dX0_takeOut_52 h
    · refine gi_aload_n (n := 13) hX 0 dX0_takeOut_12 rfl rfl rfl ?_
      refine gi_dup (n := 14) hX rfl dX0_takeOut_13 rfl ?_
      refine gi_getI (n := 17) hX 1 kc_X0 (ly_B hb) rfl rfl fl_X0_15 dX0_takeOut_14 rfl ?_
      refine gi_iconst (x := (1 : Int32)) (n := 18) hX rfl dX0_takeOut_17 rfl ?_
      refine gi_isub (n := 19) hX dX0_takeOut_18 rfl ?_
      refine gi_putI (n := 22) hX 1 kc_X0 (ly_B hb) rfl rfl fl_X0_15 rfl rfl dX0_takeOut_19 rfl h (fun v1 h => ?_)
      refine gi_iload_n (n := 23) hX 1 dX0_takeOut_22 rfl rfl rfl ?_
      refine gi_istore_n (n := 24) hX [(2, .int x1), (0, .ref (Ω.1 b)), (1, .int x1)] dX0_takeOut_23 rfl rfl rfl rfl ?_
      refine gi_sub [1, 0] rfl ?_
      have key := lp_ind (f := (fun a : gV × Int32 => f_X0_takeOut_B24 b a.2 a.1)) (P := (fun a : gV × Int32 => gx_G Γ Ω LX (gx_Q Γ Ω LX none v0) 3 a.1 24 [(0, .ref (Ω.1 b)), (2, .int a.2)] [])) (Z := (fun z : gV => gx_G Γ Ω LX (gx_Q Γ Ω LX none v0) 3 z 52 [] [])) (fun a o h hc hz => t_X0_takeOut_B24 hX hR b hb a.2 a.1 h (fun c0 c1 e => hc (c0, c1) e) (fun z0 e => hz z0 e)) fu
      obtain ⟨v2, e0, h⟩ := bx1_some h
      refine key (v1, x1) _ e0 ?_
      show gx_G Γ Ω LX (gx_Q Γ Ω LX none v0) 3 v2 52 [] []
      exact gi_vret hX rfl dX0_takeOut_52 h
theorem m_X0_takeOut (l : Launch) (Ω : gO) (b : Nat) (hb : kB b = true) (x1 : Int32) (v : gV) {v0 : gV} (h : f_X0_takeOut b x1 v = some v0) : gx_M l Ω LX yX0_takeOut cX0_takeOut 3 (none) 0 [.ref (Ω.1 b), .int x1] v none v0 := gx_start (lv := [(0, .ref (Ω.1 b)), (1, .int x1)]) (by decide +kernel) (Nat.le_of_ble_eq_true rfl) rfl (fun Γ _ hR hX => t_X0_takeOut hX hR b hb x1 v h)
end
