section
-- ===== PART A: goes FIRST, ahead of the names: the tables' words, and 'selects' of the private methods out of them =====
/-- a private method of a class that the tables say can be made, by its rows of tables_1 -/
def lw_okq (q : MethodName × Nat) : Prop := (q.1.cls ≠ "java/lang/invoke/MethodHandle" ∧ q.1.cls ≠ "java/lang/invoke/VarHandle") ∧ Cond.instantiable q.1.cls q.2 ∈ tables_1 ∧ Cond.privateMethod q.1 ∈ tables_1 ∧ Cond.instanceMethod q.1 ∈ tables_1
theorem lw_p0 : lw_okq (⟨"AfternoonChange", "tellAnew", "()V"⟩, 10) := ⟨⟨by decide +kernel, by decide +kernel⟩, List.mem_of_getElem? (i := 15) (by decide +kernel), List.mem_of_getElem? (i := 255) (by decide +kernel), List.mem_of_getElem? (i := 256) (by decide +kernel)⟩
theorem lw_p1 : lw_okq (⟨"AfternoonChange$Told", "placeOnBoard", "(I)V"⟩, 12) := ⟨⟨by decide +kernel, by decide +kernel⟩, List.mem_of_getElem? (i := 44) (by decide +kernel), List.mem_of_getElem? (i := 273) (by decide +kernel), List.mem_of_getElem? (i := 274) (by decide +kernel)⟩
theorem lw_p2 : lw_okq (⟨"AfternoonChange$Ride", "leaveAt", "(I)Z"⟩, 16) := ⟨⟨by decide +kernel, by decide +kernel⟩, List.mem_of_getElem? (i := 125) (by decide +kernel), List.mem_of_getElem? (i := 317) (by decide +kernel), List.mem_of_getElem? (i := 318) (by decide +kernel)⟩
theorem lw_p3 : lw_okq (⟨"AfternoonChange$Ride", "changeAt", "(II)V"⟩, 16) := ⟨⟨by decide +kernel, by decide +kernel⟩, List.mem_of_getElem? (i := 125) (by decide +kernel), List.mem_of_getElem? (i := 322) (by decide +kernel), List.mem_of_getElem? (i := 323) (by decide +kernel)⟩
theorem lw_p4 : lw_okq (⟨"AfternoonChange$Ride", "takeWhole", "(I)Z"⟩, 16) := ⟨⟨by decide +kernel, by decide +kernel⟩, List.mem_of_getElem? (i := 125) (by decide +kernel), List.mem_of_getElem? (i := 327) (by decide +kernel), List.mem_of_getElem? (i := 328) (by decide +kernel)⟩
theorem lw_p5 : lw_okq (⟨"AfternoonChange$Ride", "takeTorn", "(II)Z"⟩, 16) := ⟨⟨by decide +kernel, by decide +kernel⟩, List.mem_of_getElem? (i := 125) (by decide +kernel), List.mem_of_getElem? (i := 339) (by decide +kernel), List.mem_of_getElem? (i := 340) (by decide +kernel)⟩
theorem lw_p6 : lw_okq (⟨"AfternoonChange$Ride", "keep", "(I)V"⟩, 16) := ⟨⟨by decide +kernel, by decide +kernel⟩, List.mem_of_getElem? (i := 125) (by decide +kernel), List.mem_of_getElem? (i := 343) (by decide +kernel), List.mem_of_getElem? (i := 344) (by decide +kernel)⟩
theorem lw_p7 : lw_okq (⟨"AfternoonChange", "tellEven", "(I)I"⟩, 10) := ⟨⟨by decide +kernel, by decide +kernel⟩, List.mem_of_getElem? (i := 15) (by decide +kernel), List.mem_of_getElem? (i := 420) (by decide +kernel), List.mem_of_getElem? (i := 421) (by decide +kernel)⟩
theorem lw_p8 : lw_okq (⟨"AfternoonChange", "tellChanges", "(I)I"⟩, 10) := ⟨⟨by decide +kernel, by decide +kernel⟩, List.mem_of_getElem? (i := 15) (by decide +kernel), List.mem_of_getElem? (i := 424) (by decide +kernel), List.mem_of_getElem? (i := 425) (by decide +kernel)⟩
theorem lw_p9 : lw_okq (⟨"AfternoonChange", "tellForgets", "(I)I"⟩, 10) := ⟨⟨by decide +kernel, by decide +kernel⟩, List.mem_of_getElem? (i := 15) (by decide +kernel), List.mem_of_getElem? (i := 428) (by decide +kernel), List.mem_of_getElem? (i := 429) (by decide +kernel)⟩
theorem lw_p10 : lw_okq (⟨"AfternoonChange", "rideWithEven", "(I)V"⟩, 10) := ⟨⟨by decide +kernel, by decide +kernel⟩, List.mem_of_getElem? (i := 15) (by decide +kernel), List.mem_of_getElem? (i := 509) (by decide +kernel), List.mem_of_getElem? (i := 510) (by decide +kernel)⟩
theorem lw_p11 : lw_okq (⟨"AfternoonChange", "finding", "(I)I"⟩, 10) := ⟨⟨by decide +kernel, by decide +kernel⟩, List.mem_of_getElem? (i := 15) (by decide +kernel), List.mem_of_getElem? (i := 555) (by decide +kernel), List.mem_of_getElem? (i := 556) (by decide +kernel)⟩
theorem lw_p12 : lw_okq (⟨"AfternoonChange", "clearAlike", "()V"⟩, 10) := ⟨⟨by decide +kernel, by decide +kernel⟩, List.mem_of_getElem? (i := 15) (by decide +kernel), List.mem_of_getElem? (i := 576) (by decide +kernel), List.mem_of_getElem? (i := 577) (by decide +kernel)⟩
theorem lw_p13 : lw_okq (⟨"AfternoonChange", "countAlike", "(I)V"⟩, 10) := ⟨⟨by decide +kernel, by decide +kernel⟩, List.mem_of_getElem? (i := 15) (by decide +kernel), List.mem_of_getElem? (i := 581) (by decide +kernel), List.mem_of_getElem? (i := 582) (by decide +kernel)⟩
theorem lw_p14 : lw_okq (⟨"AfternoonChange", "chanceAbove", "(II)J"⟩, 10) := ⟨⟨by decide +kernel, by decide +kernel⟩, List.mem_of_getElem? (i := 15) (by decide +kernel), List.mem_of_getElem? (i := 594) (by decide +kernel), List.mem_of_getElem? (i := 595) (by decide +kernel)⟩
theorem lw_p15 : lw_okq (⟨"AfternoonChange", "refusalOfItem", "(III)I"⟩, 10) := ⟨⟨by decide +kernel, by decide +kernel⟩, List.mem_of_getElem? (i := 15) (by decide +kernel), List.mem_of_getElem? (i := 626) (by decide +kernel), List.mem_of_getElem? (i := 627) (by decide +kernel)⟩
def lw_privs_1 : List (MethodName × Nat) := [(⟨"AfternoonChange", "tellAnew", "()V"⟩, 10), (⟨"AfternoonChange$Told", "placeOnBoard", "(I)V"⟩, 12), (⟨"AfternoonChange$Ride", "leaveAt", "(I)Z"⟩, 16), (⟨"AfternoonChange$Ride", "changeAt", "(II)V"⟩, 16), (⟨"AfternoonChange$Ride", "takeWhole", "(I)Z"⟩, 16), (⟨"AfternoonChange$Ride", "takeTorn", "(II)Z"⟩, 16), (⟨"AfternoonChange$Ride", "keep", "(I)V"⟩, 16), (⟨"AfternoonChange", "tellEven", "(I)I"⟩, 10), (⟨"AfternoonChange", "tellChanges", "(I)I"⟩, 10), (⟨"AfternoonChange", "tellForgets", "(I)I"⟩, 10), (⟨"AfternoonChange", "rideWithEven", "(I)V"⟩, 10), (⟨"AfternoonChange", "finding", "(I)I"⟩, 10), (⟨"AfternoonChange", "clearAlike", "()V"⟩, 10), (⟨"AfternoonChange", "countAlike", "(I)V"⟩, 10), (⟨"AfternoonChange", "chanceAbove", "(II)J"⟩, 10), (⟨"AfternoonChange", "refusalOfItem", "(III)I"⟩, 10)]
theorem lw_r1 : ∀ q ∈ lw_privs_1, lw_okq q := List.forall_mem_cons.mpr ⟨lw_p0, List.forall_mem_cons.mpr ⟨lw_p1, List.forall_mem_cons.mpr ⟨lw_p2, List.forall_mem_cons.mpr ⟨lw_p3, List.forall_mem_cons.mpr ⟨lw_p4, List.forall_mem_cons.mpr ⟨lw_p5, List.forall_mem_cons.mpr ⟨lw_p6, List.forall_mem_cons.mpr ⟨lw_p7, List.forall_mem_cons.mpr ⟨lw_p8, List.forall_mem_cons.mpr ⟨lw_p9, List.forall_mem_cons.mpr ⟨lw_p10, List.forall_mem_cons.mpr ⟨lw_p11, List.forall_mem_cons.mpr ⟨lw_p12, List.forall_mem_cons.mpr ⟨lw_p13, List.forall_mem_cons.mpr ⟨lw_p14, List.forall_mem_cons.mpr ⟨lw_p15, fun _ h => absurd h List.not_mem_nil⟩⟩⟩⟩⟩⟩⟩⟩⟩⟩⟩⟩⟩⟩⟩⟩
theorem lw_p16 : lw_okq (⟨"AfternoonChangeModel", "finds", "(I)I"⟩, 30) := ⟨⟨by decide +kernel, by decide +kernel⟩, List.mem_of_getElem? (i := 685) (by decide +kernel), List.mem_of_getElem? (i := 794) (by decide +kernel), List.mem_of_getElem? (i := 795) (by decide +kernel)⟩
theorem lw_p17 : lw_okq (⟨"AfternoonChangeModel", "lacks", "(III)I"⟩, 30) := ⟨⟨by decide +kernel, by decide +kernel⟩, List.mem_of_getElem? (i := 685) (by decide +kernel), List.mem_of_getElem? (i := 806) (by decide +kernel), List.mem_of_getElem? (i := 807) (by decide +kernel)⟩
theorem lw_p18 : lw_okq (⟨"AfternoonChangeModel", "readsRiders", "()I"⟩, 30) := ⟨⟨by decide +kernel, by decide +kernel⟩, List.mem_of_getElem? (i := 685) (by decide +kernel), List.mem_of_getElem? (i := 842) (by decide +kernel), List.mem_of_getElem? (i := 843) (by decide +kernel)⟩
theorem lw_p19 : lw_okq (⟨"AfternoonChangeModel", "readsBag", "()I"⟩, 30) := ⟨⟨by decide +kernel, by decide +kernel⟩, List.mem_of_getElem? (i := 685) (by decide +kernel), List.mem_of_getElem? (i := 856) (by decide +kernel), List.mem_of_getElem? (i := 857) (by decide +kernel)⟩
theorem lw_p20 : lw_okq (⟨"AfternoonChangeModel", "isRider", "(I)Z"⟩, 30) := ⟨⟨by decide +kernel, by decide +kernel⟩, List.mem_of_getElem? (i := 685) (by decide +kernel), List.mem_of_getElem? (i := 866) (by decide +kernel), List.mem_of_getElem? (i := 867) (by decide +kernel)⟩
theorem lw_p21 : lw_okq (⟨"AfternoonChangeModel", "reads", "()V"⟩, 30) := ⟨⟨by decide +kernel, by decide +kernel⟩, List.mem_of_getElem? (i := 685) (by decide +kernel), List.mem_of_getElem? (i := 884) (by decide +kernel), List.mem_of_getElem? (i := 885) (by decide +kernel)⟩
theorem lw_p22 : lw_okq (⟨"AfternoonChangeModel", "lives", "()V"⟩, 30) := ⟨⟨by decide +kernel, by decide +kernel⟩, List.mem_of_getElem? (i := 685) (by decide +kernel), List.mem_of_getElem? (i := 888) (by decide +kernel), List.mem_of_getElem? (i := 889) (by decide +kernel)⟩
theorem lw_p23 : lw_okq (⟨"AfternoonChangeModel", "begins", "()V"⟩, 30) := ⟨⟨by decide +kernel, by decide +kernel⟩, List.mem_of_getElem? (i := 685) (by decide +kernel), List.mem_of_getElem? (i := 892) (by decide +kernel), List.mem_of_getElem? (i := 893) (by decide +kernel)⟩
theorem lw_p24 : lw_okq (⟨"AfternoonChangeModel", "puts", "(I)V"⟩, 30) := ⟨⟨by decide +kernel, by decide +kernel⟩, List.mem_of_getElem? (i := 685) (by decide +kernel), List.mem_of_getElem? (i := 896) (by decide +kernel), List.mem_of_getElem? (i := 897) (by decide +kernel)⟩
theorem lw_p25 : lw_okq (⟨"AfternoonChangeModel", "stops", "(II)V"⟩, 30) := ⟨⟨by decide +kernel, by decide +kernel⟩, List.mem_of_getElem? (i := 685) (by decide +kernel), List.mem_of_getElem? (i := 900) (by decide +kernel), List.mem_of_getElem? (i := 901) (by decide +kernel)⟩
theorem lw_p26 : lw_okq (⟨"AfternoonChangeModel", "may", "(I)Z"⟩, 30) := ⟨⟨by decide +kernel, by decide +kernel⟩, List.mem_of_getElem? (i := 685) (by decide +kernel), List.mem_of_getElem? (i := 907) (by decide +kernel), List.mem_of_getElem? (i := 908) (by decide +kernel)⟩
theorem lw_p27 : lw_okq (⟨"AfternoonChangeModel", "changesOne", "(I)Z"⟩, 30) := ⟨⟨by decide +kernel, by decide +kernel⟩, List.mem_of_getElem? (i := 685) (by decide +kernel), List.mem_of_getElem? (i := 911) (by decide +kernel), List.mem_of_getElem? (i := 912) (by decide +kernel)⟩
theorem lw_p28 : lw_okq (⟨"AfternoonChangeModel", "find", "(I)I"⟩, 30) := ⟨⟨by decide +kernel, by decide +kernel⟩, List.mem_of_getElem? (i := 685) (by decide +kernel), List.mem_of_getElem? (i := 915) (by decide +kernel), List.mem_of_getElem? (i := 916) (by decide +kernel)⟩
theorem lw_p29 : lw_okq (⟨"AfternoonChangeModel", "takes", "(I)V"⟩, 30) := ⟨⟨by decide +kernel, by decide +kernel⟩, List.mem_of_getElem? (i := 685) (by decide +kernel), List.mem_of_getElem? (i := 919) (by decide +kernel), List.mem_of_getElem? (i := 920) (by decide +kernel)⟩
theorem lw_p30 : lw_okq (⟨"AfternoonChangeModel", "gives", "(II)V"⟩, 30) := ⟨⟨by decide +kernel, by decide +kernel⟩, List.mem_of_getElem? (i := 685) (by decide +kernel), List.mem_of_getElem? (i := 923) (by decide +kernel), List.mem_of_getElem? (i := 924) (by decide +kernel)⟩
theorem lw_p31 : lw_okq (⟨"AfternoonChangeModel", "other", "(I)I"⟩, 30) := ⟨⟨by decide +kernel, by decide +kernel⟩, List.mem_of_getElem? (i := 685) (by decide +kernel), List.mem_of_getElem? (i := 927) (by decide +kernel), List.mem_of_getElem? (i := 928) (by decide +kernel)⟩
def lw_privs_2 : List (MethodName × Nat) := [(⟨"AfternoonChangeModel", "finds", "(I)I"⟩, 30), (⟨"AfternoonChangeModel", "lacks", "(III)I"⟩, 30), (⟨"AfternoonChangeModel", "readsRiders", "()I"⟩, 30), (⟨"AfternoonChangeModel", "readsBag", "()I"⟩, 30), (⟨"AfternoonChangeModel", "isRider", "(I)Z"⟩, 30), (⟨"AfternoonChangeModel", "reads", "()V"⟩, 30), (⟨"AfternoonChangeModel", "lives", "()V"⟩, 30), (⟨"AfternoonChangeModel", "begins", "()V"⟩, 30), (⟨"AfternoonChangeModel", "puts", "(I)V"⟩, 30), (⟨"AfternoonChangeModel", "stops", "(II)V"⟩, 30), (⟨"AfternoonChangeModel", "may", "(I)Z"⟩, 30), (⟨"AfternoonChangeModel", "changesOne", "(I)Z"⟩, 30), (⟨"AfternoonChangeModel", "find", "(I)I"⟩, 30), (⟨"AfternoonChangeModel", "takes", "(I)V"⟩, 30), (⟨"AfternoonChangeModel", "gives", "(II)V"⟩, 30), (⟨"AfternoonChangeModel", "other", "(I)I"⟩, 30)]
theorem lw_r2 : ∀ q ∈ lw_privs_2, lw_okq q := List.forall_mem_cons.mpr ⟨lw_p16, List.forall_mem_cons.mpr ⟨lw_p17, List.forall_mem_cons.mpr ⟨lw_p18, List.forall_mem_cons.mpr ⟨lw_p19, List.forall_mem_cons.mpr ⟨lw_p20, List.forall_mem_cons.mpr ⟨lw_p21, List.forall_mem_cons.mpr ⟨lw_p22, List.forall_mem_cons.mpr ⟨lw_p23, List.forall_mem_cons.mpr ⟨lw_p24, List.forall_mem_cons.mpr ⟨lw_p25, List.forall_mem_cons.mpr ⟨lw_p26, List.forall_mem_cons.mpr ⟨lw_p27, List.forall_mem_cons.mpr ⟨lw_p28, List.forall_mem_cons.mpr ⟨lw_p29, List.forall_mem_cons.mpr ⟨lw_p30, List.forall_mem_cons.mpr ⟨lw_p31, fun _ h => absurd h List.not_mem_nil⟩⟩⟩⟩⟩⟩⟩⟩⟩⟩⟩⟩⟩⟩⟩⟩
theorem lw_p32 : lw_okq (⟨"AfternoonChangeModel", "keeps", "(I)V"⟩, 30) := ⟨⟨by decide +kernel, by decide +kernel⟩, List.mem_of_getElem? (i := 685) (by decide +kernel), List.mem_of_getElem? (i := 931) (by decide +kernel), List.mem_of_getElem? (i := 932) (by decide +kernel)⟩
theorem lw_p33 : lw_okq (⟨"AfternoonChangeModel", "bagOf", "(II)I"⟩, 30) := ⟨⟨by decide +kernel, by decide +kernel⟩, List.mem_of_getElem? (i := 685) (by decide +kernel), List.mem_of_getElem? (i := 948) (by decide +kernel), List.mem_of_getElem? (i := 949) (by decide +kernel)⟩
theorem lw_p34 : lw_okq (⟨"AfternoonChangeModel", "getsOf", "(I)I"⟩, 30) := ⟨⟨by decide +kernel, by decide +kernel⟩, List.mem_of_getElem? (i := 685) (by decide +kernel), List.mem_of_getElem? (i := 956) (by decide +kernel), List.mem_of_getElem? (i := 957) (by decide +kernel)⟩
theorem lw_p35 : lw_okq (⟨"AfternoonChangeModel", "isServed", "(II)Z"⟩, 30) := ⟨⟨by decide +kernel, by decide +kernel⟩, List.mem_of_getElem? (i := 685) (by decide +kernel), List.mem_of_getElem? (i := 960) (by decide +kernel), List.mem_of_getElem? (i := 961) (by decide +kernel)⟩
theorem lw_p36 : lw_okq (⟨"AfternoonChangeModel", "servedBy", "(I)I"⟩, 30) := ⟨⟨by decide +kernel, by decide +kernel⟩, List.mem_of_getElem? (i := 685) (by decide +kernel), List.mem_of_getElem? (i := 976) (by decide +kernel), List.mem_of_getElem? (i := 977) (by decide +kernel)⟩
theorem lw_p37 : lw_okq (⟨"AfternoonChangeModel", "ringsNow", "(I)I"⟩, 30) := ⟨⟨by decide +kernel, by decide +kernel⟩, List.mem_of_getElem? (i := 685) (by decide +kernel), List.mem_of_getElem? (i := 984) (by decide +kernel), List.mem_of_getElem? (i := 985) (by decide +kernel)⟩
theorem lw_p38 : lw_okq (⟨"AfternoonChangeModel", "isRing", "(III)Z"⟩, 30) := ⟨⟨by decide +kernel, by decide +kernel⟩, List.mem_of_getElem? (i := 685) (by decide +kernel), List.mem_of_getElem? (i := 988) (by decide +kernel), List.mem_of_getElem? (i := 989) (by decide +kernel)⟩
theorem lw_p39 : lw_okq (⟨"AfternoonChangeModel", "wantsOf", "(II)Z"⟩, 30) := ⟨⟨by decide +kernel, by decide +kernel⟩, List.mem_of_getElem? (i := 685) (by decide +kernel), List.mem_of_getElem? (i := 992) (by decide +kernel), List.mem_of_getElem? (i := 993) (by decide +kernel)⟩
theorem lw_p40 : lw_okq (⟨"AfternoonChangeModel", "openOf", "(II)I"⟩, 30) := ⟨⟨by decide +kernel, by decide +kernel⟩, List.mem_of_getElem? (i := 685) (by decide +kernel), List.mem_of_getElem? (i := 1000) (by decide +kernel), List.mem_of_getElem? (i := 1001) (by decide +kernel)⟩
theorem lw_p41 : lw_okq (⟨"AfternoonChangeModel", "leastOf", "(I)I"⟩, 30) := ⟨⟨by decide +kernel, by decide +kernel⟩, List.mem_of_getElem? (i := 685) (by decide +kernel), List.mem_of_getElem? (i := 1011) (by decide +kernel), List.mem_of_getElem? (i := 1012) (by decide +kernel)⟩
theorem lw_p42 : lw_okq (⟨"AfternoonChangeModel", "topOf", "(I)I"⟩, 30) := ⟨⟨by decide +kernel, by decide +kernel⟩, List.mem_of_getElem? (i := 685) (by decide +kernel), List.mem_of_getElem? (i := 1022) (by decide +kernel), List.mem_of_getElem? (i := 1023) (by decide +kernel)⟩
theorem lw_p43 : lw_okq (⟨"AfternoonChangeModel", "hadOf", "(I)I"⟩, 30) := ⟨⟨by decide +kernel, by decide +kernel⟩, List.mem_of_getElem? (i := 685) (by decide +kernel), List.mem_of_getElem? (i := 1044) (by decide +kernel), List.mem_of_getElem? (i := 1045) (by decide +kernel)⟩
theorem lw_p44 : lw_okq (⟨"AfternoonChangeModel", "isSeen", "()Z"⟩, 30) := ⟨⟨by decide +kernel, by decide +kernel⟩, List.mem_of_getElem? (i := 685) (by decide +kernel), List.mem_of_getElem? (i := 1048) (by decide +kernel), List.mem_of_getElem? (i := 1049) (by decide +kernel)⟩
theorem lw_p45 : lw_okq (⟨"AfternoonChangeModel", "wasNow", "()I"⟩, 30) := ⟨⟨by decide +kernel, by decide +kernel⟩, List.mem_of_getElem? (i := 685) (by decide +kernel), List.mem_of_getElem? (i := 1056) (by decide +kernel), List.mem_of_getElem? (i := 1057) (by decide +kernel)⟩
theorem lw_p46 : lw_okq (⟨"AfternoonChangeModel", "askOf", "(I)I"⟩, 30) := ⟨⟨by decide +kernel, by decide +kernel⟩, List.mem_of_getElem? (i := 685) (by decide +kernel), List.mem_of_getElem? (i := 1064) (by decide +kernel), List.mem_of_getElem? (i := 1065) (by decide +kernel)⟩
theorem lw_p47 : lw_okq (⟨"AfternoonChangeModel", "maybeOf", "(IIII)J"⟩, 30) := ⟨⟨by decide +kernel, by decide +kernel⟩, List.mem_of_getElem? (i := 685) (by decide +kernel), List.mem_of_getElem? (i := 1073) (by decide +kernel), List.mem_of_getElem? (i := 1074) (by decide +kernel)⟩
def lw_privs_3 : List (MethodName × Nat) := [(⟨"AfternoonChangeModel", "keeps", "(I)V"⟩, 30), (⟨"AfternoonChangeModel", "bagOf", "(II)I"⟩, 30), (⟨"AfternoonChangeModel", "getsOf", "(I)I"⟩, 30), (⟨"AfternoonChangeModel", "isServed", "(II)Z"⟩, 30), (⟨"AfternoonChangeModel", "servedBy", "(I)I"⟩, 30), (⟨"AfternoonChangeModel", "ringsNow", "(I)I"⟩, 30), (⟨"AfternoonChangeModel", "isRing", "(III)Z"⟩, 30), (⟨"AfternoonChangeModel", "wantsOf", "(II)Z"⟩, 30), (⟨"AfternoonChangeModel", "openOf", "(II)I"⟩, 30), (⟨"AfternoonChangeModel", "leastOf", "(I)I"⟩, 30), (⟨"AfternoonChangeModel", "topOf", "(I)I"⟩, 30), (⟨"AfternoonChangeModel", "hadOf", "(I)I"⟩, 30), (⟨"AfternoonChangeModel", "isSeen", "()Z"⟩, 30), (⟨"AfternoonChangeModel", "wasNow", "()I"⟩, 30), (⟨"AfternoonChangeModel", "askOf", "(I)I"⟩, 30), (⟨"AfternoonChangeModel", "maybeOf", "(IIII)J"⟩, 30)]
theorem lw_r3 : ∀ q ∈ lw_privs_3, lw_okq q := List.forall_mem_cons.mpr ⟨lw_p32, List.forall_mem_cons.mpr ⟨lw_p33, List.forall_mem_cons.mpr ⟨lw_p34, List.forall_mem_cons.mpr ⟨lw_p35, List.forall_mem_cons.mpr ⟨lw_p36, List.forall_mem_cons.mpr ⟨lw_p37, List.forall_mem_cons.mpr ⟨lw_p38, List.forall_mem_cons.mpr ⟨lw_p39, List.forall_mem_cons.mpr ⟨lw_p40, List.forall_mem_cons.mpr ⟨lw_p41, List.forall_mem_cons.mpr ⟨lw_p42, List.forall_mem_cons.mpr ⟨lw_p43, List.forall_mem_cons.mpr ⟨lw_p44, List.forall_mem_cons.mpr ⟨lw_p45, List.forall_mem_cons.mpr ⟨lw_p46, List.forall_mem_cons.mpr ⟨lw_p47, fun _ h => absurd h List.not_mem_nil⟩⟩⟩⟩⟩⟩⟩⟩⟩⟩⟩⟩⟩⟩⟩⟩
theorem lw_p48 : lw_okq (⟨"AfternoonChangeModel", "depotOf", "(III)I"⟩, 30) := ⟨⟨by decide +kernel, by decide +kernel⟩, List.mem_of_getElem? (i := 685) (by decide +kernel), List.mem_of_getElem? (i := 1088) (by decide +kernel), List.mem_of_getElem? (i := 1089) (by decide +kernel)⟩
theorem lw_p49 : lw_okq (⟨"AfternoonChangeModel", "lot", "(I)I"⟩, 30) := ⟨⟨by decide +kernel, by decide +kernel⟩, List.mem_of_getElem? (i := 685) (by decide +kernel), List.mem_of_getElem? (i := 1092) (by decide +kernel), List.mem_of_getElem? (i := 1093) (by decide +kernel)⟩
theorem lw_p50 : lw_okq (⟨"AfternoonChangeModel", "tellsRider", "(JI)J"⟩, 30) := ⟨⟨by decide +kernel, by decide +kernel⟩, List.mem_of_getElem? (i := 685) (by decide +kernel), List.mem_of_getElem? (i := 1115) (by decide +kernel), List.mem_of_getElem? (i := 1116) (by decide +kernel)⟩
theorem lw_p51 : lw_okq (⟨"AfternoonChangeModel", "tellsDay", "(JI)J"⟩, 30) := ⟨⟨by decide +kernel, by decide +kernel⟩, List.mem_of_getElem? (i := 685) (by decide +kernel), List.mem_of_getElem? (i := 1119) (by decide +kernel), List.mem_of_getElem? (i := 1120) (by decide +kernel)⟩
def lw_privs_4 : List (MethodName × Nat) := [(⟨"AfternoonChangeModel", "depotOf", "(III)I"⟩, 30), (⟨"AfternoonChangeModel", "lot", "(I)I"⟩, 30), (⟨"AfternoonChangeModel", "tellsRider", "(JI)J"⟩, 30), (⟨"AfternoonChangeModel", "tellsDay", "(JI)J"⟩, 30)]
theorem lw_r4 : ∀ q ∈ lw_privs_4, lw_okq q := List.forall_mem_cons.mpr ⟨lw_p48, List.forall_mem_cons.mpr ⟨lw_p49, List.forall_mem_cons.mpr ⟨lw_p50, List.forall_mem_cons.mpr ⟨lw_p51, fun _ h => absurd h List.not_mem_nil⟩⟩⟩⟩
def lw_privs : List (MethodName × Nat) := lw_privs_1 ++ (lw_privs_2 ++ (lw_privs_3 ++ (lw_privs_4)))
def lw_tbl : List Cond := k2_sels lw_privs ++ tables_1
theorem lw_privs_ok : ∀ q ∈ lw_privs, lw_okq q := by
  show ∀ q ∈ lw_privs_1 ++ (lw_privs_2 ++ (lw_privs_3 ++ (lw_privs_4))), lw_okq q
  exact List.forall_mem_append.mpr ⟨lw_r1, List.forall_mem_append.mpr ⟨lw_r2, List.forall_mem_append.mpr ⟨lw_r3, lw_r4⟩⟩⟩
-- ===== end of PART A; then your names; then what follows =====
end
section
/-! names, fields, codes (as printed), and the rows of arrays of arrays; then which words stand in the tables -/
def va_AOA (ty : FieldType) (U : State) : Prop := (Cond.arrayOver (.array ty)).before #[] U = true
theorem va_AOA.use {ty : FieldType} {A : Array Value} {U : State} (h : va_AOA ty U) : (Cond.arrayOver (.array ty)).before A U = true := h
theorem va_AOA.of {ty : FieldType} {A : Array Value} {U : State} (h : (Cond.arrayOver (.array ty)).before A U = true) : va_AOA ty U := h
/-! ===== BEGIN new T[n][m]: the outer array a place, the inner ones among the pooled ===== -/
/-- f, but v at every address of l -/
def vr_up {α : Type} (f : Nat → α) (l : List Nat) (v : α) : Nat → α := fun a => if a ∈ l then v else f a
theorem vr_up_in {α : Type} {f : Nat → α} {l : List Nat} {v : α} {a : Nat} (h : a ∈ l) : vr_up f l v a = v := if_pos h
theorem vr_up_ne {α : Type} {f : Nat → α} {l : List Nat} {v : α} {a : Nat} (h : a ∉ l) : vr_up f l v a = f a := if_neg h
theorem vr_rows {L l : List Nat} {f : Nat → va_E} {e : va_E} (h : ∀ a, a ∈ l → a ∉ L) : va_pl L f ++ l.map (fun a => (a, e)) = va_pl (L ++ l) (vr_up f l e) := by
  unfold va_pl
  rw [List.map_append]
  congr 1
  · apply List.map_congr_left
    intro a ha
    rw [vr_up_ne (fun q => h a q ha)]
  · apply List.map_congr_left
    intro a ha
    rw [vr_up_in ha]
theorem vr_lay {X rows : va_W} {x : Nat × va_E} {pl : va_W} {D : va_G} {cl : List vw_C} {H : Heap} (hP : va_P D cl (((X ++ pl) ++ [x]) ++ rows) H) : va_P D cl ((X ++ [x]) ++ (pl ++ rows)) H := by
  rw [List.append_assoc (X ++ pl)] at hP
  have h := va_P.swap hP
  rw [← List.append_assoc X] at h
  have h2 := va_P.swap h
  rw [List.append_assoc (X ++ [x])] at h2
  exact h2
theorem vr_layD {X rows : va_W} {x : Nat × va_E} {pl : va_W} {A : Nat → Prop} (hD : va_D A (((X ++ pl) ++ [x]) ++ rows)) : va_D A ((X ++ [x]) ++ (pl ++ rows)) := by
  rw [List.append_assoc (X ++ pl)] at hD
  have h := va_D.swap hD
  rw [← List.append_assoc X] at h
  have h2 := va_D.swap h
  rw [List.append_assoc (X ++ [x])] at h2
  exact h2
theorem vr_outer (c : ClassId) (N h0 : Nat) : ∀ i : Nat, Jvm.Free.Multi.outerC c N h0 i = arrV c N (fun j => va_rf (if j < i then some (h0 + 1 + j) else none))
  | 0 => by
    show ({ cls := c, slots := Array.replicate N .null, vm := .none } : Cell) = _
    rw [arrV_new]
    refine congrArg (arrV c N) (funext fun j => ?_)
    simp [va_rf]
  | i + 1 => by
    show (Jvm.Free.Multi.outerC c N h0 i).setSlot i (.ref (h0 + 1 + i)) = _
    rw [vr_outer c N h0 i, arrV_store]
    refine congrArg (arrV c N) (funext fun j => ?_)
    by_cases e : j = i
    · subst e
      simp [updV, va_rf]
    · by_cases h : j < i
      · simp [updV, e, h, Nat.lt_succ_of_lt h]
      · simp [updV, e, h, show ¬ j < i + 1 by omega]
section VGM
variable {p : Program} {l : Launch} {e : Env} {R : Room} {s : State} {m : MethodId} {args : Array Value} {below : List Frame} {meth : Method} {c : Code} {H : Heap} {locs : List Loc} {cells slots : Nat} {Q : State → Prop}
variable {cc : ByteArray} {pc : Nat} {ls : Array Slot} {rest : List Value} {D : va_G} {cl : List vw_C} {A : Nat → Prop} {a : Nat} {tys : List (ClassId × FieldType)} {ws : va_W} {H0 : Heap}
theorem va_mna {X : va_W} {L : List Nat} {f : Nat → va_E} {cc : ByteArray} (hexec : p.tables.exec = Jvm.exec) (hb : c.code = cc) {own : String} {index : Nat} {ty : FieldType} {cy : ClassId} (hown : s.vm.findClass own = some m.cls) (hclink : (Cond.classLink own index ("[" ++ (FieldType.array ty).toString)).before args s = true) (hover : va_AOA ty s) (harr : (Cond.arrayClass ty).before args s = true) (hcy : s.vm.findClass (FieldType.array ty).toString = some cy)
    (hK : va_K D cl tys s) (hP : va_P D cl (X ++ va_pl L f) H) (hD : va_D A (X ++ va_pl L f)) (hS : va_S A H0 H locs) (hA : ∀ q, H0.size ≤ q → A q) {n k : Int32} {N' K' : Nat} {z : vp_A} (hn : ¬ n < 0) (hk : ¬ k < 0) (hN : n.toNatClampNeg = N') (hM : k.toNatClampNeg = K')
    (hb1 : N' * 4 ≤ 536870912) (hb2 : K' * componentBytes ty ≤ 536870912) (hb3 : K' ≤ 536870912) (hdf : fits ty (defaultValue ty) = true) (hdd : (defaultValue ty).isDefault = true) (hcells : cells + (1 + N') ≤ R.cells) (hslots : slots + (N' + N' * K') ≤ R.slots) (hz : ∀ c : ClassId, Jvm.Free.Multi.innerC c K' (defaultValue ty) = vp_cell c z) (hdg : decode cc pc = .ok (.multianewarray index 2, 4))
    (kk : ∀ (q : Nat) (r : Nat → Nat) (cA : ClassId) (H1 : Heap), (∀ i j : Nat, i < N' → j < N' → r i = r j → i = j) → (∀ i : Nat, i < N' → r i ∉ L) → va_K D cl (tys ++ [(cA, .array ty)]) s →
      va_P D cl ((X ++ [(q, .inl (cA, N', .inr (.inr (.inr (.inr (fun i => if i < N' then some (r i) else none))))))]) ++ va_pl (L ++ (List.range N').map r) (vr_up f ((List.range N').map r) (.inl (cy, z)))) H1 → va_D A ((X ++ [(q, .inl (cA, N', .inr (.inr (.inr (.inr (fun i => if i < N' then some (r i) else none))))))]) ++ va_pl (L ++ (List.range N').map r) (vr_up f ((List.range N').map r) (.inl (cy, z)))) → va_S A H0 H1 locs →
      W p l e R s m args below meth c H1 locs (cells + 1 + N') (slots + N' + N' * K') Q (F0 m (pc + 4) ls (.ref q :: rest))) : W p l e R s m args below meth c H locs cells slots Q (F0 m pc ls (.int k :: .int n :: rest)) := by
  subst hN
  subst hM
  intro T hT Xs
  obtain ⟨vm₁, cA, comp, -, fA, fC, hO, -, X', step⟩ := Xs.multianewarray2F hexec hown hclink (va_AOA.use hover) harr (g := F0 m pc ls (.int k :: .int n :: rest)) rfl (by rw [hb]; exact hdg) rfl hn hk hb1 hb2 hb3 hdf hdd hcells hslots
  have ec : some cy = some comp := hcy.symm.trans fC
  cases ec
  generalize hF : Jvm.Free.Multi.fill (T.setVm vm₁) cA cy n.toNatClampNeg k.toNatClampNeg (defaultValue ty) n.toNatClampNeg = F at X' step
  have hTh : (T.setVm vm₁).heap = H := hT
  obtain ⟨f1, f2, -, -⟩ := Jvm.Free.Multi.fill_facts (T.setVm vm₁) cA cy n.toNatClampNeg k.toNatClampNeg (defaultValue ty) n.toNatClampNeg
  rw [hF, hTh] at f1 f2
  have hold : ∀ x : Nat, x < H.size → F.heap[x]? = H[x]? := fun x hx => by
    have := Jvm.Free.Multi.fill_old (T.setVm vm₁) cA cy n.toNatClampNeg k.toNatClampNeg (defaultValue ty) (a := x) (by rw [hTh]; exact hx) n.toNatClampNeg
    rw [hF, hTh] at this
    exact this
  have hrow : ∀ j : Nat, j < n.toNatClampNeg → F.heap[H.size + 1 + j]? = some (vp_cell cy z) := fun j hj => by
    have := Jvm.Free.Multi.fill_inner (T.setVm vm₁) cA cy n.toNatClampNeg k.toNatClampNeg (defaultValue ty) n.toNatClampNeg j hj
    rw [hF, hTh, hz] at this
    exact this
  have hout : Jvm.Free.Multi.outerC cA n.toNatClampNeg H.size n.toNatClampNeg = vp_cell cA (n.toNatClampNeg, .inr (.inr (.inr (.inr (fun i => if i < n.toNatClampNeg then some (H.size + 1 + i) else none))))) := by
    rw [vp_cell_q]
    exact vr_outer cA n.toNatClampNeg H.size n.toNatClampNeg
  rw [hout] at f2
  have hlt : ∀ a, a ∈ L → a < H.size := fun a ha => by
    obtain ⟨k9, hk9⟩ := va_pl_get (X := X) (f := f) ha
    exact (hP k9 _ hk9).lt
  have hnl : ∀ i : Nat, i < n.toNatClampNeg → H.size + 1 + i ∉ L := fun i _ h => by
    have := hlt _ h
    omega
  have hnm : ∀ a, a ∈ (List.range n.toNatClampNeg).map (fun i => H.size + 1 + i) → a ∉ L := fun a ha h => by
    obtain ⟨i, -, rfl⟩ := List.mem_map.mp ha
    have := hlt _ h
    omega
  have hP0 : va_P D cl (X ++ va_pl L f) F.heap := hP.kept (fun k9 x hx => hold x.1 ((hP k9 x hx).lt))
  have hP1 : va_P D cl ((X ++ va_pl L f) ++ [(H.size, .inl (cA, n.toNatClampNeg, .inr (.inr (.inr (.inr (fun i => if i < n.toNatClampNeg then some (H.size + 1 + i) else none))))))]) F.heap := hP0.app (fun k9 x hx => by
    have h0 : k9 < 1 := (List.getElem?_eq_some_iff.mp hx).1
    rw [show k9 = 0 by omega] at hx
    cases hx
    exact f2)
  have hP2 : va_P D cl (((X ++ va_pl L f) ++ [(H.size, .inl (cA, n.toNatClampNeg, .inr (.inr (.inr (.inr (fun i => if i < n.toNatClampNeg then some (H.size + 1 + i) else none))))))]) ++ ((List.range n.toNatClampNeg).map (fun i => H.size + 1 + i)).map (fun a => (a, .inl (cy, z)))) F.heap := hP1.app (fun k9 x hx => by
    obtain ⟨a, ha, rfl⟩ := List.mem_map.mp (List.mem_of_getElem? hx)
    obtain ⟨i, hi, rfl⟩ := List.mem_map.mp ha
    exact hrow i (List.mem_range.mp hi))
  have hD2 : va_D A (((X ++ va_pl L f) ++ [(H.size, .inl (cA, n.toNatClampNeg, .inr (.inr (.inr (.inr (fun i => if i < n.toNatClampNeg then some (H.size + 1 + i) else none))))))]) ++ ((List.range n.toNatClampNeg).map (fun i => H.size + 1 + i)).map (fun a => (a, .inl (cy, z)))) := by
    have hD1 := hD.push (e := .inl (cA, n.toNatClampNeg, .inr (.inr (.inr (.inr (fun i => if i < n.toNatClampNeg then some (H.size + 1 + i) else none)))))) hP rfl (hA _ hS.1)
    generalize hW1 : (X ++ va_pl L f) ++ [(H.size, .inl (cA, n.toNatClampNeg, .inr (.inr (.inr (.inr (fun i => if i < n.toNatClampNeg then some (H.size + 1 + i) else none))))))] = W1 at hD1 hP1 ⊢
    have hle : ∀ (k9 : Nat) (x : Nat × va_E), W1[k9]? = some x → x.1 ≤ H.size := fun k9 x hx => by
      rw [← hW1] at hx
      by_cases hl : k9 < (X ++ va_pl L f).length
      · rw [List.getElem?_append_left hl] at hx
        exact Nat.le_of_lt ((hP k9 x hx).lt)
      · rw [List.getElem?_append_right (by omega)] at hx
        have h0 : k9 - (X ++ va_pl L f).length < 1 := (List.getElem?_eq_some_iff.mp hx).1
        rw [show k9 - (X ++ va_pl L f).length = 0 by omega] at hx
        cases hx
        exact Nat.le_refl _
    have hr : ∀ (k9 : Nat) (x : Nat × va_E), (((List.range n.toNatClampNeg).map (fun i => H.size + 1 + i)).map (fun a => ((a, .inl (cy, z)) : Nat × va_E)))[k9]? = some x → x.1 = H.size + 1 + k9 := fun k9 x hx => by
      rw [List.getElem?_map, List.getElem?_map] at hx
      by_cases h9 : k9 < n.toNatClampNeg
      · rw [List.getElem?_range h9] at hx
        cases hx
        rfl
      · have hn0 : (List.range n.toNatClampNeg)[k9]? = none := List.getElem?_eq_none (by rw [List.length_range]; omega)
        rw [hn0] at hx
        cases hx
    refine ⟨fun i j x y hi hj hxy => ?_, fun k9 x hx => ?_⟩
    · by_cases h1 : i < W1.length <;> by_cases h2 : j < W1.length
      · rw [List.getElem?_append_left h1] at hi
        rw [List.getElem?_append_left h2] at hj
        exact hD1.1 i j x y hi hj hxy
      · rw [List.getElem?_append_left h1] at hi
        rw [List.getElem?_append_right (by omega)] at hj
        have := hle _ _ hi
        have := hr _ _ hj
        omega
      · rw [List.getElem?_append_right (by omega)] at hi
        rw [List.getElem?_append_left h2] at hj
        have := hle _ _ hj
        have := hr _ _ hi
        omega
      · rw [List.getElem?_append_right (by omega)] at hi hj
        have := hr _ _ hi
        have := hr _ _ hj
        omega
    · by_cases h1 : k9 < W1.length
      · rw [List.getElem?_append_left h1] at hx
        exact hD1.2 k9 x hx
      · rw [List.getElem?_append_right (by omega)] at hx
        have := hr _ _ hx
        exact hA _ (by have := hS.1; omega)
  have hAr : ArrOfT s cA (.array ty) := fun N9 z9 => by
    obtain ⟨-, k9, hk9, cm9, hkk9⟩ := (hO 0 0 0).1
    exact ⟨(fun q hq => by cases hq), k9, hk9, cm9, hkk9⟩
  have hK2 : va_K D cl (tys ++ [(cA, .array ty)]) s := ⟨hK.1, fun k9 x hx => by
    by_cases hl : k9 < tys.length
    · rw [List.getElem?_append_left hl] at hx
      exact hK.2 k9 x hx
    · rw [List.getElem?_append_right (by omega)] at hx
      have h0 : k9 - tys.length < 1 := (List.getElem?_eq_some_iff.mp hx).1
      rw [show k9 - tys.length = 0 by omega] at hx
      cases hx
      exact ⟨hAr, fA⟩⟩
  obtain ⟨t, a1, b1⟩ := kk H.size (fun i => H.size + 1 + i) cA F.heap (fun i j _ _ h => by have h9 : H.size + 1 + i = H.size + 1 + j := h; omega) hnl hK2 (by rw [← vr_rows hnm]; exact vr_lay hP2) (by rw [← vr_rows hnm]; exact vr_layD hD2) ⟨by rw [f1]; have := hS.1; omega, fun x h1 h2 => (hold x (Nat.lt_of_lt_of_le h1 hS.1)).trans (hS.2.1 x h1 h2), hS.2.2⟩ F rfl X'
  refine ⟨t, step t ?_, b1⟩
  have e : T.heap.size = H.size := by rw [hT]
  rw [e]
  exact a1
end VGM
/-! ===== END ===== -/

/-! ===== BEGIN printed: names, fields, word lists, decode rows ===== -/
def RX0 : String := "AfternoonChange$Bag"
def TX0 : u_T := fun k => match k with
  | 0 => ("AfternoonChange$Bag", "kinds", "[I", true)
  | _ => ("AfternoonChange$Bag", "size", "I", false)
def tyX0 : Nat → FieldType := fun k => match k with
  | 0 => .array .int
  | _ => .int
theorem nmX0 : ∀ a, a < 2 → ∀ b, b < 2 → a ≠ b → (TX0 a).2.1 ≠ (TX0 b).2.1 := by decide +kernel
theorem tyX0_ok : ∀ k, k < 2 → parseFieldDescriptor (TX0 k).2.2.1 = some (tyX0 k) := by decide +kernel
abbrev cX0_init : ByteArray := prog_2_method_1_code
def yX0_init : MethodName := ⟨RX0, "<init>", "()V"⟩
abbrev cX0_become : ByteArray := prog_2_method_2_code
def yX0_become : MethodName := ⟨RX0, "become", "(LAfternoonChange$Bag;)V"⟩
abbrev cX0_putAtBottom : ByteArray := prog_2_method_3_code
def yX0_putAtBottom : MethodName := ⟨RX0, "putAtBottom", "(I)V"⟩
abbrev cX0_putOnTop : ByteArray := prog_2_method_4_code
def yX0_putOnTop : MethodName := ⟨RX0, "putOnTop", "(I)V"⟩
abbrev cX0_placeOf : ByteArray := prog_2_method_5_code
def yX0_placeOf : MethodName := ⟨RX0, "placeOf", "(I)I"⟩
abbrev cX0_takeOut : ByteArray := prog_2_method_6_code
def yX0_takeOut : MethodName := ⟨RX0, "takeOut", "(I)V"⟩
def RX1 : String := "AfternoonChange$Ride"
def TX1 : u_T := fun k => match k with
  | 0 => ("AfternoonChange$Ride", "told", "LAfternoonChange$Told;", true)
  | 1 => ("AfternoonChange$Ride", "even", "I", false)
  | 2 => ("AfternoonChange$Ride", "changes", "I", false)
  | 3 => ("AfternoonChange$Ride", "has", "[I", true)
  | 4 => ("AfternoonChange$Ride", "bag", "LAfternoonChange$Bag;", true)
  | 5 => ("AfternoonChange$Ride", "torn", "I", false)
  | 6 => ("AfternoonChange$Ride", "hasBehind", "[[I", true)
  | 7 => ("AfternoonChange$Ride", "tornBehind", "[I", true)
  | 8 => ("AfternoonChange$Ride", "servedBehind", "[I", true)
  | 9 => ("AfternoonChange$Ride", "bagBehind", "[LAfternoonChange$Bag;", true)
  | 10 => ("AfternoonChange$Ride", "lastDay", "I", false)
  | 11 => ("AfternoonChange$Ride", "made", "I", false)
  | 12 => ("AfternoonChange$Ride", "firstDay", "I", false)
  | 13 => ("AfternoonChange$Ride", "firstStop", "I", false)
  | 14 => ("AfternoonChange$Ride", "firstRider", "I", false)
  | _ => ("AfternoonChange$Ride", "stillDay", "I", false)
def tyX1 : Nat → FieldType := fun k => match k with
  | 0 => .object "AfternoonChange$Told"
  | 1 => .int
  | 2 => .int
  | 3 => .array .int
  | 4 => .object "AfternoonChange$Bag"
  | 5 => .int
  | 6 => .array (.array .int)
  | 7 => .array .int
  | 8 => .array .int
  | 9 => .array (.object "AfternoonChange$Bag")
  | 10 => .int
  | 11 => .int
  | 12 => .int
  | 13 => .int
  | 14 => .int
  | _ => .int
theorem nmX1 : ∀ a, a < 16 → ∀ b, b < 16 → a ≠ b → (TX1 a).2.1 ≠ (TX1 b).2.1 := by decide +kernel
theorem tyX1_ok : ∀ k, k < 16 → parseFieldDescriptor (TX1 k).2.2.1 = some (tyX1 k) := by decide +kernel
abbrev cX1_init : ByteArray := prog_3_method_1_code
def yX1_init : MethodName := ⟨RX1, "<init>", "(LAfternoonChange$Told;)V"⟩
abbrev cX1_begin : ByteArray := prog_3_method_2_code
def yX1_begin : MethodName := ⟨RX1, "begin", "()V"⟩
abbrev cX1_go : ByteArray := prog_3_method_3_code
def yX1_go : MethodName := ⟨RX1, "go", "()V"⟩
abbrev cX1_leaveAt : ByteArray := prog_3_method_4_code
def yX1_leaveAt : MethodName := ⟨RX1, "leaveAt", "(I)Z"⟩
abbrev cX1_changeAt : ByteArray := prog_3_method_5_code
def yX1_changeAt : MethodName := ⟨RX1, "changeAt", "(II)V"⟩
abbrev cX1_takeWhole : ByteArray := prog_3_method_6_code
def yX1_takeWhole : MethodName := ⟨RX1, "takeWhole", "(I)Z"⟩
abbrev cX1_takeTorn : ByteArray := prog_3_method_7_code
def yX1_takeTorn : MethodName := ⟨RX1, "takeTorn", "(II)Z"⟩
abbrev cX1_keep : ByteArray := prog_3_method_8_code
def yX1_keep : MethodName := ⟨RX1, "keep", "(I)V"⟩
abbrev cX1_hasOn : ByteArray := prog_3_method_9_code
def yX1_hasOn : MethodName := ⟨RX1, "hasOn", "(II)I"⟩
abbrev cX1_tornOn : ByteArray := prog_3_method_10_code
def yX1_tornOn : MethodName := ⟨RX1, "tornOn", "(I)I"⟩
abbrev cX1_servedOn : ByteArray := prog_3_method_11_code
def yX1_servedOn : MethodName := ⟨RX1, "servedOn", "(I)I"⟩
abbrev cX1_bagOn : ByteArray := prog_3_method_12_code
def yX1_bagOn : MethodName := ⟨RX1, "bagOn", "(I)LAfternoonChange$Bag;"⟩
abbrev cX1_servedAtLast : ByteArray := prog_3_method_13_code
def yX1_servedAtLast : MethodName := ⟨RX1, "servedAtLast", "()I"⟩
def RX2 : String := "AfternoonChange$Sheet"
def TX2 : u_T := fun k => match k with
  | 0 => ("AfternoonChange$Sheet", "form", "I", false)
  | 1 => ("AfternoonChange$Sheet", "size", "I", false)
  | _ => ("AfternoonChange$Sheet", "items", "[I", true)
def tyX2 : Nat → FieldType := fun k => match k with
  | 0 => .int
  | 1 => .int
  | _ => .array .int
theorem nmX2 : ∀ a, a < 3 → ∀ b, b < 3 → a ≠ b → (TX2 a).2.1 ≠ (TX2 b).2.1 := by decide +kernel
theorem tyX2_ok : ∀ k, k < 3 → parseFieldDescriptor (TX2 k).2.2.1 = some (tyX2 k) := by decide +kernel
abbrev cX2_init : ByteArray := prog_4_method_1_code
def yX2_init : MethodName := ⟨RX2, "<init>", "()V"⟩
abbrev cX2_isLost : ByteArray := prog_4_method_2_code
def yX2_isLost : MethodName := ⟨RX2, "isLost", "()Z"⟩
abbrev cX2_startAnew : ByteArray := prog_4_method_3_code
def yX2_startAnew : MethodName := ⟨RX2, "startAnew", "(II)V"⟩
abbrev cX2_giveUp : ByteArray := prog_4_method_4_code
def yX2_giveUp : MethodName := ⟨RX2, "giveUp", "()V"⟩
abbrev cX2_hasItems : ByteArray := prog_4_method_5_code
def yX2_hasItems : MethodName := ⟨RX2, "hasItems", "(II)Z"⟩
abbrev cX2_put : ByteArray := prog_4_method_6_code
def yX2_put : MethodName := ⟨RX2, "put", "(II)V"⟩
def RX3 : String := "AfternoonChange$Sightings"
def TX3 : u_T := fun k => match k with
  | 0 => ("AfternoonChange$Sightings", "days", "[I", true)
  | 1 => ("AfternoonChange$Sightings", "riders", "[I", true)
  | 2 => ("AfternoonChange$Sightings", "afternoons", "[I", true)
  | _ => ("AfternoonChange$Sightings", "size", "I", false)
def tyX3 : Nat → FieldType := fun k => match k with
  | 0 => .array .int
  | 1 => .array .int
  | 2 => .array .int
  | _ => .int
theorem nmX3 : ∀ a, a < 4 → ∀ b, b < 4 → a ≠ b → (TX3 a).2.1 ≠ (TX3 b).2.1 := by decide +kernel
theorem tyX3_ok : ∀ k, k < 4 → parseFieldDescriptor (TX3 k).2.2.1 = some (tyX3 k) := by decide +kernel
abbrev cX3_init : ByteArray := prog_5_method_1_code
def yX3_init : MethodName := ⟨RX3, "<init>", "()V"⟩
abbrev cX3_mayBe : ByteArray := prog_5_method_2_code
def yX3_mayBe : MethodName := ⟨RX3, "mayBe", "(III)Z"⟩
abbrev cX3_isFull : ByteArray := prog_5_method_3_code
def yX3_isFull : MethodName := ⟨RX3, "isFull", "()Z"⟩
abbrev cX3_append : ByteArray := prog_5_method_4_code
def yX3_append : MethodName := ⟨RX3, "append", "(III)V"⟩
abbrev cX3_comeOutIn : ByteArray := prog_5_method_5_code
def yX3_comeOutIn : MethodName := ⟨RX3, "comeOutIn", "(LAfternoonChange$Ride;I)Z"⟩
def RX4 : String := "AfternoonChange$StopSets"
def TX4 : u_T := fun k => match k with
  | 0 => ("AfternoonChange$StopSets", "served", "[J", true)
  | 1 => ("AfternoonChange$StopSets", "stamps", "[I", true)
  | 2 => ("AfternoonChange$StopSets", "stamp", "I", false)
  | _ => ("AfternoonChange$StopSets", "useful", "I", false)
def tyX4 : Nat → FieldType := fun k => match k with
  | 0 => .array .long
  | 1 => .array .int
  | 2 => .int
  | _ => .int
theorem nmX4 : ∀ a, a < 4 → ∀ b, b < 4 → a ≠ b → (TX4 a).2.1 ≠ (TX4 b).2.1 := by decide +kernel
theorem tyX4_ok : ∀ k, k < 4 → parseFieldDescriptor (TX4 k).2.2.1 = some (tyX4 k) := by decide +kernel
abbrev cX4_init : ByteArray := prog_6_method_1_code
def yX4_init : MethodName := ⟨RX4, "<init>", "()V"⟩
abbrev cX4_startAnew : ByteArray := prog_6_method_2_code
def yX4_startAnew : MethodName := ⟨RX4, "startAnew", "(LAfternoonChange$Told;)V"⟩
abbrev cX4_servedBy : ByteArray := prog_6_method_3_code
def yX4_servedBy : MethodName := ⟨RX4, "servedBy", "(IILAfternoonChange$Ride;)I"⟩
def RX5 : String := "AfternoonChange$Text"
def TX5 : u_T := fun k => match k with
  | 0 => ("AfternoonChange$Text", "bytes", "[I", true)
  | _ => ("AfternoonChange$Text", "size", "I", false)
def tyX5 : Nat → FieldType := fun k => match k with
  | 0 => .array .int
  | _ => .int
theorem nmX5 : ∀ a, a < 2 → ∀ b, b < 2 → a ≠ b → (TX5 a).2.1 ≠ (TX5 b).2.1 := by decide +kernel
theorem tyX5_ok : ∀ k, k < 2 → parseFieldDescriptor (TX5 k).2.2.1 = some (tyX5 k) := by decide +kernel
abbrev cX5_init : ByteArray := prog_7_method_1_code
def yX5_init : MethodName := ⟨RX5, "<init>", "(I)V"⟩
abbrev cX5_isFull : ByteArray := prog_7_method_2_code
def yX5_isFull : MethodName := ⟨RX5, "isFull", "()Z"⟩
abbrev cX5_append : ByteArray := prog_7_method_3_code
def yX5_append : MethodName := ⟨RX5, "append", "(I)V"⟩
abbrev cX5_faultAsRiders : ByteArray := prog_7_method_4_code
def yX5_faultAsRiders : MethodName := ⟨RX5, "faultAsRiders", "()I"⟩
abbrev cX5_faultAsBag : ByteArray := prog_7_method_5_code
def yX5_faultAsBag : MethodName := ⟨RX5, "faultAsBag", "()I"⟩
abbrev cX5_fitsRider : ByteArray := prog_7_method_6_code
def yX5_fitsRider : MethodName := ⟨RX5, "fitsRider", "(II)Z"⟩
abbrev cX5_kindOf : ByteArray := prog_7_method_7_code
def yX5_kindOf : MethodName := ⟨RX5, "kindOf", "(I)I"⟩
def RX6 : String := "AfternoonChange$Told"
def TX6 : u_T := fun k => match k with
  | 0 => ("AfternoonChange$Told", "riders", "I", false)
  | 1 => ("AfternoonChange$Told", "starts", "[I", true)
  | 2 => ("AfternoonChange$Told", "boards", "[I", true)
  | 3 => ("AfternoonChange$Told", "leaves", "[I", true)
  | 4 => ("AfternoonChange$Told", "wants", "[I", true)
  | 5 => ("AfternoonChange$Told", "aboard", "[I", true)
  | 6 => ("AfternoonChange$Told", "leaving", "[I", true)
  | 7 => ("AfternoonChange$Told", "bag", "LAfternoonChange$Bag;", true)
  | 8 => ("AfternoonChange$Told", "worths", "[I", true)
  | 9 => ("AfternoonChange$Told", "even", "I", false)
  | 10 => ("AfternoonChange$Told", "changes", "I", false)
  | _ => ("AfternoonChange$Told", "forgets", "I", false)
def tyX6 : Nat → FieldType := fun k => match k with
  | 0 => .int
  | 1 => .array .int
  | 2 => .array .int
  | 3 => .array .int
  | 4 => .array .int
  | 5 => .array .int
  | 6 => .array .int
  | 7 => .object "AfternoonChange$Bag"
  | 8 => .array .int
  | 9 => .int
  | 10 => .int
  | _ => .int
theorem nmX6 : ∀ a, a < 12 → ∀ b, b < 12 → a ≠ b → (TX6 a).2.1 ≠ (TX6 b).2.1 := by decide +kernel
theorem tyX6_ok : ∀ k, k < 12 → parseFieldDescriptor (TX6 k).2.2.1 = some (tyX6 k) := by decide +kernel
abbrev cX6_init : ByteArray := prog_8_method_1_code
def yX6_init : MethodName := ⟨RX6, "<init>", "()V"⟩
abbrev cX6_readRiders : ByteArray := prog_8_method_2_code
def yX6_readRiders : MethodName := ⟨RX6, "readRiders", "(LAfternoonChange$Text;)V"⟩
abbrev cX6_placeOnBoard : ByteArray := prog_8_method_3_code
def yX6_placeOnBoard : MethodName := ⟨RX6, "placeOnBoard", "(I)V"⟩
abbrev cX6_readBag : ByteArray := prog_8_method_4_code
def yX6_readBag : MethodName := ⟨RX6, "readBag", "(LAfternoonChange$Text;)V"⟩
abbrev cX6_mayChange : ByteArray := prog_8_method_5_code
def yX6_mayChange : MethodName := ⟨RX6, "mayChange", "(III)Z"⟩
abbrev cX6_isRing : ByteArray := prog_8_method_6_code
def yX6_isRing : MethodName := ⟨RX6, "isRing", "(III)Z"⟩
def RX7 : String := "AfternoonChange"
def TX7 : u_T := fun k => match k with
  | 0 => ("AfternoonChange", "texts", "[LAfternoonChange$Text;", true)
  | 1 => ("AfternoonChange", "told", "LAfternoonChange$Told;", true)
  | 2 => ("AfternoonChange", "ride", "LAfternoonChange$Ride;", true)
  | 3 => ("AfternoonChange", "trial", "LAfternoonChange$Ride;", true)
  | 4 => ("AfternoonChange", "stopSets", "LAfternoonChange$StopSets;", true)
  | 5 => ("AfternoonChange", "sightings", "LAfternoonChange$Sightings;", true)
  | 6 => ("AfternoonChange", "sheets", "[LAfternoonChange$Sheet;", true)
  | 7 => ("AfternoonChange", "alike", "[[I", true)
  | 8 => ("AfternoonChange", "setsBySize", "[I", true)
  | _ => ("AfternoonChange", "latestFinding", "I", false)
def tyX7 : Nat → FieldType := fun k => match k with
  | 0 => .array (.object "AfternoonChange$Text")
  | 1 => .object "AfternoonChange$Told"
  | 2 => .object "AfternoonChange$Ride"
  | 3 => .object "AfternoonChange$Ride"
  | 4 => .object "AfternoonChange$StopSets"
  | 5 => .object "AfternoonChange$Sightings"
  | 6 => .array (.object "AfternoonChange$Sheet")
  | 7 => .array (.array .int)
  | 8 => .array .int
  | _ => .int
theorem nmX7 : ∀ a, a < 10 → ∀ b, b < 10 → a ≠ b → (TX7 a).2.1 ≠ (TX7 b).2.1 := by decide +kernel
theorem tyX7_ok : ∀ k, k < 10 → parseFieldDescriptor (TX7 k).2.2.1 = some (tyX7 k) := by decide +kernel
abbrev cX7_init : ByteArray := prog_1_method_1_code
def yX7_init : MethodName := ⟨RX7, "<init>", "()V"⟩
abbrev cX7_type : ByteArray := prog_1_method_2_code
def yX7_type : MethodName := ⟨RX7, "type", "(II)I"⟩
abbrev cX7_wipe : ByteArray := prog_1_method_3_code
def yX7_wipe : MethodName := ⟨RX7, "wipe", "(I)I"⟩
abbrev cX7_undo : ByteArray := prog_1_method_4_code
def yX7_undo : MethodName := ⟨RX7, "undo", "(I)I"⟩
abbrev cX7_fault : ByteArray := prog_1_method_5_code
def yX7_fault : MethodName := ⟨RX7, "fault", "(I)I"⟩
abbrev cX7_rider : ByteArray := prog_1_method_6_code
def yX7_rider : MethodName := ⟨RX7, "rider", "(II)I"⟩
abbrev cX7_worth : ByteArray := prog_1_method_7_code
def yX7_worth : MethodName := ⟨RX7, "worth", "(II)I"⟩
abbrev cX7_set : ByteArray := prog_1_method_8_code
def yX7_set : MethodName := ⟨RX7, "set", "(II)I"⟩
abbrev cX7_has : ByteArray := prog_1_method_9_code
def yX7_has : MethodName := ⟨RX7, "has", "(II)I"⟩
abbrev cX7_torn : ByteArray := prog_1_method_10_code
def yX7_torn : MethodName := ⟨RX7, "torn", "(II)I"⟩
abbrev cX7_bag : ByteArray := prog_1_method_11_code
def yX7_bag : MethodName := ⟨RX7, "bag", "(II)I"⟩
abbrev cX7_gets : ByteArray := prog_1_method_12_code
def yX7_gets : MethodName := ⟨RX7, "gets", "(I)I"⟩
abbrev cX7_first : ByteArray := prog_1_method_13_code
def yX7_first : MethodName := ⟨RX7, "first", "(I)I"⟩
abbrev cX7_still : ByteArray := prog_1_method_14_code
def yX7_still : MethodName := ⟨RX7, "still", "()I"⟩
abbrev cX7_served : ByteArray := prog_1_method_15_code
def yX7_served : MethodName := ⟨RX7, "served", "(I)I"⟩
abbrev cX7_rings : ByteArray := prog_1_method_16_code
def yX7_rings : MethodName := ⟨RX7, "rings", "(I)I"⟩
abbrev cX7_open : ByteArray := prog_1_method_17_code
def yX7_open : MethodName := ⟨RX7, "open", "(II)I"⟩
abbrev cX7_least : ByteArray := prog_1_method_18_code
def yX7_least : MethodName := ⟨RX7, "least", "(I)I"⟩
abbrev cX7_top : ByteArray := prog_1_method_19_code
def yX7_top : MethodName := ⟨RX7, "top", "(I)I"⟩
abbrev cX7_seen : ByteArray := prog_1_method_20_code
def yX7_seen : MethodName := ⟨RX7, "seen", "(III)I"⟩
abbrev cX7_forget : ByteArray := prog_1_method_21_code
def yX7_forget : MethodName := ⟨RX7, "forget", "()I"⟩
abbrev cX7_read : ByteArray := prog_1_method_22_code
def yX7_read : MethodName := ⟨RX7, "read", "(I)I"⟩
abbrev cX7_had : ByteArray := prog_1_method_23_code
def yX7_had : MethodName := ⟨RX7, "had", "(I)I"⟩
abbrev cX7_was : ByteArray := prog_1_method_24_code
def yX7_was : MethodName := ⟨RX7, "was", "()I"⟩
abbrev cX7_ask : ByteArray := prog_1_method_25_code
def yX7_ask : MethodName := ⟨RX7, "ask", "(I)I"⟩
abbrev cX7_maybe : ByteArray := prog_1_method_26_code
def yX7_maybe : MethodName := ⟨RX7, "maybe", "(IIII)J"⟩
abbrev cX7_depot : ByteArray := prog_1_method_27_code
def yX7_depot : MethodName := ⟨RX7, "depot", "(III)I"⟩
abbrev cX7_sheet : ByteArray := prog_1_method_28_code
def yX7_sheet : MethodName := ⟨RX7, "sheet", "(III)I"⟩
abbrev cX7_lose : ByteArray := prog_1_method_29_code
def yX7_lose : MethodName := ⟨RX7, "lose", "(I)I"⟩
abbrev cX7_lay : ByteArray := prog_1_method_30_code
def yX7_lay : MethodName := ⟨RX7, "lay", "(IIII)I"⟩
abbrev cX7_get : ByteArray := prog_1_method_31_code
def yX7_get : MethodName := ⟨RX7, "get", "(III)I"⟩
abbrev cX7_copy : ByteArray := prog_1_method_32_code
def yX7_copy : MethodName := ⟨RX7, "copy", "(IIIII)I"⟩
abbrev cX7_write : ByteArray := prog_1_method_33_code
def yX7_write : MethodName := ⟨RX7, "write", "(II)I"⟩
abbrev cX7_count : ByteArray := prog_1_method_34_code
def yX7_count : MethodName := ⟨RX7, "count", "(I)I"⟩
abbrev cX7_digest : ByteArray := prog_1_method_35_code
def yX7_digest : MethodName := ⟨RX7, "digest", "()J"⟩
abbrev cX7_isOutside : ByteArray := prog_1_method_36_code
def yX7_isOutside : MethodName := ⟨RX7, "isOutside", "(II)Z"⟩
abbrev cX7_mix : ByteArray := prog_1_method_37_code
def yX7_mix : MethodName := ⟨RX7, "mix", "(JJ)J"⟩
abbrev cX7_tellAnew : ByteArray := prog_1_method_38_code
def yX7_tellAnew : MethodName := ⟨RX7, "tellAnew", "()V"⟩
abbrev cX7_tellEven : ByteArray := prog_1_method_39_code
def yX7_tellEven : MethodName := ⟨RX7, "tellEven", "(I)I"⟩
abbrev cX7_tellChanges : ByteArray := prog_1_method_40_code
def yX7_tellChanges : MethodName := ⟨RX7, "tellChanges", "(I)I"⟩
abbrev cX7_tellForgets : ByteArray := prog_1_method_41_code
def yX7_tellForgets : MethodName := ⟨RX7, "tellForgets", "(I)I"⟩
abbrev cX7_rideWithEven : ByteArray := prog_1_method_42_code
def yX7_rideWithEven : MethodName := ⟨RX7, "rideWithEven", "(I)V"⟩
abbrev cX7_clearAlike : ByteArray := prog_1_method_43_code
def yX7_clearAlike : MethodName := ⟨RX7, "clearAlike", "()V"⟩
abbrev cX7_countAlike : ByteArray := prog_1_method_44_code
def yX7_countAlike : MethodName := ⟨RX7, "countAlike", "(I)V"⟩
abbrev cX7_greatestOf : ByteArray := prog_1_method_45_code
def yX7_greatestOf : MethodName := ⟨RX7, "greatestOf", "([I)I"⟩
abbrev cX7_chanceAbove : ByteArray := prog_1_method_46_code
def yX7_chanceAbove : MethodName := ⟨RX7, "chanceAbove", "(II)J"⟩
abbrev cX7_finding : ByteArray := prog_1_method_47_code
def yX7_finding : MethodName := ⟨RX7, "finding", "(I)I"⟩
abbrev cX7_refusalOfItem : ByteArray := prog_1_method_48_code
def yX7_refusalOfItem : MethodName := ⟨RX7, "refusalOfItem", "(III)I"⟩
def RX8 : String := "AfternoonChangeModel"
def TX8 : u_T := fun k => match k with
  | 0 => ("AfternoonChangeModel", "forms", "[I", true)
  | 1 => ("AfternoonChangeModel", "sizes", "[I", true)
  | 2 => ("AfternoonChangeModel", "items", "[I", true)
  | 3 => ("AfternoonChangeModel", "moved", "[I", true)
  | 4 => ("AfternoonChangeModel", "latest", "I", false)
  | 5 => ("AfternoonChangeModel", "bytes", "[I", true)
  | 6 => ("AfternoonChangeModel", "typed", "[I", true)
  | 7 => ("AfternoonChangeModel", "riders", "I", false)
  | 8 => ("AfternoonChangeModel", "rider", "[I", true)
  | 9 => ("AfternoonChangeModel", "bagged", "I", false)
  | 10 => ("AfternoonChangeModel", "bagAt", "[I", true)
  | 11 => ("AfternoonChangeModel", "worths", "[I", true)
  | 12 => ("AfternoonChangeModel", "settings", "[I", true)
  | 13 => ("AfternoonChangeModel", "top", "I", false)
  | 14 => ("AfternoonChangeModel", "has", "[I", true)
  | 15 => ("AfternoonChangeModel", "isTorn", "[I", true)
  | 16 => ("AfternoonChangeModel", "board", "I", false)
  | 17 => ("AfternoonChangeModel", "many", "I", false)
  | 18 => ("AfternoonChangeModel", "bag", "[I", true)
  | 19 => ("AfternoonChangeModel", "hasBy", "[I", true)
  | 20 => ("AfternoonChangeModel", "tornBy", "[I", true)
  | 21 => ("AfternoonChangeModel", "manyBy", "[I", true)
  | 22 => ("AfternoonChangeModel", "bagBy", "[I", true)
  | 23 => ("AfternoonChangeModel", "first", "[I", true)
  | 24 => ("AfternoonChangeModel", "changes", "I", false)
  | 25 => ("AfternoonChangeModel", "still", "I", false)
  | 26 => ("AfternoonChangeModel", "sights", "I", false)
  | 27 => ("AfternoonChangeModel", "sight", "[I", true)
  | 28 => ("AfternoonChangeModel", "alike", "[I", true)
  | _ => ("AfternoonChangeModel", "drawn", "I", false)
def tyX8 : Nat → FieldType := fun k => match k with
  | 0 => .array .int
  | 1 => .array .int
  | 2 => .array .int
  | 3 => .array .int
  | 4 => .int
  | 5 => .array .int
  | 6 => .array .int
  | 7 => .int
  | 8 => .array .int
  | 9 => .int
  | 10 => .array .int
  | 11 => .array .int
  | 12 => .array .int
  | 13 => .int
  | 14 => .array .int
  | 15 => .array .int
  | 16 => .int
  | 17 => .int
  | 18 => .array .int
  | 19 => .array .int
  | 20 => .array .int
  | 21 => .array .int
  | 22 => .array .int
  | 23 => .array .int
  | 24 => .int
  | 25 => .int
  | 26 => .int
  | 27 => .array .int
  | 28 => .array .int
  | _ => .int
theorem nmX8 : ∀ a, a < 30 → ∀ b, b < 30 → a ≠ b → (TX8 a).2.1 ≠ (TX8 b).2.1 := by decide +kernel
theorem tyX8_ok : ∀ k, k < 30 → parseFieldDescriptor (TX8 k).2.2.1 = some (tyX8 k) := by decide +kernel
abbrev cX8_init : ByteArray := prog_10_method_1_code
def yX8_init : MethodName := ⟨RX8, "<init>", "()V"⟩
abbrev cX8_in : ByteArray := prog_10_method_3_code
def yX8_in : MethodName := ⟨RX8, "in", "(JJJ)Z"⟩
abbrev cX8_no : ByteArray := prog_10_method_4_code
def yX8_no : MethodName := ⟨RX8, "no", "(I)J"⟩
abbrev cX8_isTwo : ByteArray := prog_10_method_5_code
def yX8_isTwo : MethodName := ⟨RX8, "isTwo", "(I)Z"⟩
abbrev cX8_isIn : ByteArray := prog_10_method_6_code
def yX8_isIn : MethodName := ⟨RX8, "isIn", "(II)Z"⟩
abbrev cX8_ones : ByteArray := prog_10_method_7_code
def yX8_ones : MethodName := ⟨RX8, "ones", "(I)I"⟩
abbrev cX8_lesser : ByteArray := prog_10_method_8_code
def yX8_lesser : MethodName := ⟨RX8, "lesser", "(II)I"⟩
abbrev cX8_greater : ByteArray := prog_10_method_9_code
def yX8_greater : MethodName := ⟨RX8, "greater", "(II)I"⟩
abbrev cX8_part : ByteArray := prog_10_method_10_code
def yX8_part : MethodName := ⟨RX8, "part", "(JJI)J"⟩
abbrev cX8_finds : ByteArray := prog_10_method_11_code
def yX8_finds : MethodName := ⟨RX8, "finds", "(I)I"⟩
abbrev cX8_isSheet : ByteArray := prog_10_method_12_code
def yX8_isSheet : MethodName := ⟨RX8, "isSheet", "(I)Z"⟩
abbrev cX8_sheet : ByteArray := prog_10_method_13_code
def yX8_sheet : MethodName := ⟨RX8, "sheet", "(III)I"⟩
abbrev cX8_lose : ByteArray := prog_10_method_14_code
def yX8_lose : MethodName := ⟨RX8, "lose", "(I)I"⟩
abbrev cX8_lacks : ByteArray := prog_10_method_15_code
def yX8_lacks : MethodName := ⟨RX8, "lacks", "(III)I"⟩
abbrev cX8_cut : ByteArray := prog_10_method_16_code
def yX8_cut : MethodName := ⟨RX8, "cut", "(II)I"⟩
abbrev cX8_lay : ByteArray := prog_10_method_17_code
def yX8_lay : MethodName := ⟨RX8, "lay", "(IIII)I"⟩
abbrev cX8_get : ByteArray := prog_10_method_18_code
def yX8_get : MethodName := ⟨RX8, "get", "(III)I"⟩
abbrev cX8_copy : ByteArray := prog_10_method_19_code
def yX8_copy : MethodName := ⟨RX8, "copy", "(IIIII)I"⟩
abbrev cX8_type : ByteArray := prog_10_method_20_code
def yX8_type : MethodName := ⟨RX8, "type", "(II)I"⟩
abbrev cX8_wipe : ByteArray := prog_10_method_21_code
def yX8_wipe : MethodName := ⟨RX8, "wipe", "(I)I"⟩
abbrev cX8_undo : ByteArray := prog_10_method_22_code
def yX8_undo : MethodName := ⟨RX8, "undo", "(I)I"⟩
abbrev cX8_letterOf : ByteArray := prog_10_method_23_code
def yX8_letterOf : MethodName := ⟨RX8, "letterOf", "(I)I"⟩
abbrev cX8_riderOf : ByteArray := prog_10_method_24_code
def yX8_riderOf : MethodName := ⟨RX8, "riderOf", "(II)I"⟩
abbrev cX8_readsRiders : ByteArray := prog_10_method_25_code
def yX8_readsRiders : MethodName := ⟨RX8, "readsRiders", "()I"⟩
abbrev cX8_readsBag : ByteArray := prog_10_method_26_code
def yX8_readsBag : MethodName := ⟨RX8, "readsBag", "()I"⟩
abbrev cX8_fault : ByteArray := prog_10_method_27_code
def yX8_fault : MethodName := ⟨RX8, "fault", "(I)I"⟩
abbrev cX8_isRider : ByteArray := prog_10_method_28_code
def yX8_isRider : MethodName := ⟨RX8, "isRider", "(I)Z"⟩
abbrev cX8_isDay : ByteArray := prog_10_method_29_code
def yX8_isDay : MethodName := ⟨RX8, "isDay", "(I)Z"⟩
abbrev cX8_rider : ByteArray := prog_10_method_30_code
def yX8_rider : MethodName := ⟨RX8, "rider", "(II)I"⟩
abbrev cX8_worth : ByteArray := prog_10_method_31_code
def yX8_worth : MethodName := ⟨RX8, "worth", "(II)I"⟩
abbrev cX8_set : ByteArray := prog_10_method_32_code
def yX8_set : MethodName := ⟨RX8, "set", "(II)I"⟩
abbrev cX8_puts : ByteArray := prog_10_method_33_code
def yX8_puts : MethodName := ⟨RX8, "puts", "(I)V"⟩
abbrev cX8_find : ByteArray := prog_10_method_34_code
def yX8_find : MethodName := ⟨RX8, "find", "(I)I"⟩
abbrev cX8_takes : ByteArray := prog_10_method_35_code
def yX8_takes : MethodName := ⟨RX8, "takes", "(I)V"⟩
abbrev cX8_may : ByteArray := prog_10_method_36_code
def yX8_may : MethodName := ⟨RX8, "may", "(I)Z"⟩
abbrev cX8_other : ByteArray := prog_10_method_37_code
def yX8_other : MethodName := ⟨RX8, "other", "(I)I"⟩
abbrev cX8_gives : ByteArray := prog_10_method_38_code
def yX8_gives : MethodName := ⟨RX8, "gives", "(II)V"⟩
abbrev cX8_changesOne : ByteArray := prog_10_method_39_code
def yX8_changesOne : MethodName := ⟨RX8, "changesOne", "(I)Z"⟩
abbrev cX8_stops : ByteArray := prog_10_method_40_code
def yX8_stops : MethodName := ⟨RX8, "stops", "(II)V"⟩
abbrev cX8_keeps : ByteArray := prog_10_method_41_code
def yX8_keeps : MethodName := ⟨RX8, "keeps", "(I)V"⟩
abbrev cX8_begins : ByteArray := prog_10_method_42_code
def yX8_begins : MethodName := ⟨RX8, "begins", "()V"⟩
abbrev cX8_lives : ByteArray := prog_10_method_43_code
def yX8_lives : MethodName := ⟨RX8, "lives", "()V"⟩
abbrev cX8_reads : ByteArray := prog_10_method_44_code
def yX8_reads : MethodName := ⟨RX8, "reads", "()V"⟩
abbrev cX8_has : ByteArray := prog_10_method_45_code
def yX8_has : MethodName := ⟨RX8, "has", "(II)I"⟩
abbrev cX8_torn : ByteArray := prog_10_method_46_code
def yX8_torn : MethodName := ⟨RX8, "torn", "(II)I"⟩
abbrev cX8_bagOf : ByteArray := prog_10_method_47_code
def yX8_bagOf : MethodName := ⟨RX8, "bagOf", "(II)I"⟩
abbrev cX8_bag : ByteArray := prog_10_method_48_code
def yX8_bag : MethodName := ⟨RX8, "bag", "(II)I"⟩
abbrev cX8_isServed : ByteArray := prog_10_method_49_code
def yX8_isServed : MethodName := ⟨RX8, "isServed", "(II)Z"⟩
abbrev cX8_getsOf : ByteArray := prog_10_method_50_code
def yX8_getsOf : MethodName := ⟨RX8, "getsOf", "(I)I"⟩
abbrev cX8_gets : ByteArray := prog_10_method_51_code
def yX8_gets : MethodName := ⟨RX8, "gets", "(I)I"⟩
abbrev cX8_first : ByteArray := prog_10_method_52_code
def yX8_first : MethodName := ⟨RX8, "first", "(I)I"⟩
abbrev cX8_still : ByteArray := prog_10_method_53_code
def yX8_still : MethodName := ⟨RX8, "still", "()I"⟩
abbrev cX8_servedBy : ByteArray := prog_10_method_54_code
def yX8_servedBy : MethodName := ⟨RX8, "servedBy", "(I)I"⟩
abbrev cX8_served : ByteArray := prog_10_method_55_code
def yX8_served : MethodName := ⟨RX8, "served", "(I)I"⟩
abbrev cX8_wantsOf : ByteArray := prog_10_method_56_code
def yX8_wantsOf : MethodName := ⟨RX8, "wantsOf", "(II)Z"⟩
abbrev cX8_isRing : ByteArray := prog_10_method_57_code
def yX8_isRing : MethodName := ⟨RX8, "isRing", "(III)Z"⟩
abbrev cX8_ringsNow : ByteArray := prog_10_method_58_code
def yX8_ringsNow : MethodName := ⟨RX8, "ringsNow", "(I)I"⟩
abbrev cX8_rings : ByteArray := prog_10_method_59_code
def yX8_rings : MethodName := ⟨RX8, "rings", "(I)I"⟩
abbrev cX8_openOf : ByteArray := prog_10_method_60_code
def yX8_openOf : MethodName := ⟨RX8, "openOf", "(II)I"⟩
abbrev cX8_open : ByteArray := prog_10_method_61_code
def yX8_open : MethodName := ⟨RX8, "open", "(II)I"⟩
abbrev cX8_leastOf : ByteArray := prog_10_method_62_code
def yX8_leastOf : MethodName := ⟨RX8, "leastOf", "(I)I"⟩
abbrev cX8_least : ByteArray := prog_10_method_63_code
def yX8_least : MethodName := ⟨RX8, "least", "(I)I"⟩
abbrev cX8_topOf : ByteArray := prog_10_method_64_code
def yX8_topOf : MethodName := ⟨RX8, "topOf", "(I)I"⟩
abbrev cX8_top : ByteArray := prog_10_method_65_code
def yX8_top : MethodName := ⟨RX8, "top", "(I)I"⟩
abbrev cX8_seen : ByteArray := prog_10_method_66_code
def yX8_seen : MethodName := ⟨RX8, "seen", "(III)I"⟩
abbrev cX8_forget : ByteArray := prog_10_method_67_code
def yX8_forget : MethodName := ⟨RX8, "forget", "()I"⟩
abbrev cX8_read : ByteArray := prog_10_method_68_code
def yX8_read : MethodName := ⟨RX8, "read", "(I)I"⟩
abbrev cX8_isSeen : ByteArray := prog_10_method_69_code
def yX8_isSeen : MethodName := ⟨RX8, "isSeen", "()Z"⟩
abbrev cX8_hadOf : ByteArray := prog_10_method_70_code
def yX8_hadOf : MethodName := ⟨RX8, "hadOf", "(I)I"⟩
abbrev cX8_had : ByteArray := prog_10_method_71_code
def yX8_had : MethodName := ⟨RX8, "had", "(I)I"⟩
abbrev cX8_wasNow : ByteArray := prog_10_method_72_code
def yX8_wasNow : MethodName := ⟨RX8, "wasNow", "()I"⟩
abbrev cX8_was : ByteArray := prog_10_method_73_code
def yX8_was : MethodName := ⟨RX8, "was", "()I"⟩
abbrev cX8_askOf : ByteArray := prog_10_method_74_code
def yX8_askOf : MethodName := ⟨RX8, "askOf", "(I)I"⟩
abbrev cX8_ask : ByteArray := prog_10_method_75_code
def yX8_ask : MethodName := ⟨RX8, "ask", "(I)I"⟩
abbrev cX8_maybeOf : ByteArray := prog_10_method_76_code
def yX8_maybeOf : MethodName := ⟨RX8, "maybeOf", "(IIII)J"⟩
abbrev cX8_maybe : ByteArray := prog_10_method_77_code
def yX8_maybe : MethodName := ⟨RX8, "maybe", "(IIII)J"⟩
abbrev cX8_lot : ByteArray := prog_10_method_78_code
def yX8_lot : MethodName := ⟨RX8, "lot", "(I)I"⟩
abbrev cX8_depotOf : ByteArray := prog_10_method_79_code
def yX8_depotOf : MethodName := ⟨RX8, "depotOf", "(III)I"⟩
abbrev cX8_depot : ByteArray := prog_10_method_80_code
def yX8_depot : MethodName := ⟨RX8, "depot", "(III)I"⟩
abbrev cX8_write : ByteArray := prog_10_method_81_code
def yX8_write : MethodName := ⟨RX8, "write", "(II)I"⟩
abbrev cX8_count : ByteArray := prog_10_method_82_code
def yX8_count : MethodName := ⟨RX8, "count", "(I)I"⟩
abbrev cX8_tellsRider : ByteArray := prog_10_method_83_code
def yX8_tellsRider : MethodName := ⟨RX8, "tellsRider", "(JI)J"⟩
abbrev cX8_tellsDay : ByteArray := prog_10_method_84_code
def yX8_tellsDay : MethodName := ⟨RX8, "tellsDay", "(JI)J"⟩
abbrev cX8_digest : ByteArray := prog_10_method_85_code
def yX8_digest : MethodName := ⟨RX8, "digest", "()J"⟩
def RJ6 : String := "java/lang/Integer"
def TJ6 : u_T := fun k => match k with
  | _ => ("", "", "", false)
def tyJ6 : Nat → FieldType := fun k => match k with
  | _ => .int
theorem nmJ6 : ∀ a, a < 0 → ∀ b, b < 0 → a ≠ b → (TJ6 a).2.1 ≠ (TJ6 b).2.1 := by decide +kernel
theorem tyJ6_ok : ∀ k, k < 0 → parseFieldDescriptor (TJ6 k).2.2.1 = some (tyJ6 k) := by decide +kernel
abbrev cJ6_bitCount_0f7a4 : ByteArray := prog_11_method_49_code
def yJ6_bitCount_0f7a4 : MethodName := ⟨RJ6, "bitCount", "(I)I"⟩
def RJ9 : String := "java/lang/Math"
def TJ9 : u_T := fun k => match k with
  | _ => ("", "", "", false)
def tyJ9 : Nat → FieldType := fun k => match k with
  | _ => .int
theorem nmJ9 : ∀ a, a < 0 → ∀ b, b < 0 → a ≠ b → (TJ9 a).2.1 ≠ (TJ9 b).2.1 := by decide +kernel
theorem tyJ9_ok : ∀ k, k < 0 → parseFieldDescriptor (TJ9 k).2.2.1 = some (tyJ9 k) := by decide +kernel
abbrev cJ9_max_7cf53 : ByteArray := prog_12_method_65_code
def yJ9_max_7cf53 : MethodName := ⟨RJ9, "max", "(II)I"⟩
abbrev cJ9_min_7cf53 : ByteArray := prog_12_method_69_code
def yJ9_min_7cf53 : MethodName := ⟨RJ9, "min", "(II)I"⟩
def RJ10 : String := "java/lang/System"
def TJ10 : u_T := fun k => match k with
  | _ => ("", "", "", false)
def tyJ10 : Nat → FieldType := fun k => match k with
  | _ => .int
theorem nmJ10 : ∀ a, a < 0 → ∀ b, b < 0 → a ≠ b → (TJ10 a).2.1 ≠ (TJ10 b).2.1 := by decide +kernel
theorem tyJ10_ok : ∀ k, k < 0 → parseFieldDescriptor (TJ10 k).2.2.1 = some (tyJ10 k) := by decide +kernel
def RJ7 : String := "java/util/Arrays"
def TJ7 : u_T := fun k => match k with
  | _ => ("", "", "", false)
def tyJ7 : Nat → FieldType := fun k => match k with
  | _ => .int
theorem nmJ7 : ∀ a, a < 0 → ∀ b, b < 0 → a ≠ b → (TJ7 a).2.1 ≠ (TJ7 b).2.1 := by decide +kernel
theorem tyJ7_ok : ∀ k, k < 0 → parseFieldDescriptor (TJ7 k).2.2.1 = some (tyJ7 k) := by decide +kernel
abbrev cJ7_fill_53178 : ByteArray := prog_14_method_103_code
def yJ7_fill_53178 : MethodName := ⟨RJ7, "fill", "([II)V"⟩
def RL : String := "AfternoonChangeLaw"
abbrev cL_law : ByteArray := code
def yL_law : MethodName := ⟨RL, "law", "([I)Z"⟩
abbrev vwCl : List vw_C := [(RX0, TX0, 2), (RX1, TX1, 16), (RX2, TX2, 3), (RX3, TX3, 4), (RX4, TX4, 4), (RX5, TX5, 2), (RX6, TX6, 12), (RX7, TX7, 10), (RX8, TX8, 30)]
/-- the tables' good words -/
def gU : List Cond := lw_tbl.filter goodWord
theorem t_1 {i : Nat} {w : Cond} (h : tables_1_1[i]? = some w) (hg : goodWord w = true) : w ∈ gU := List.mem_filter.mpr ⟨List.mem_append_right _ (List.mem_append_left _ (List.mem_of_getElem? h)), hg⟩
theorem t_2 {i : Nat} {w : Cond} (h : tables_1_2[i]? = some w) (hg : goodWord w = true) : w ∈ gU := List.mem_filter.mpr ⟨List.mem_append_right _ (List.mem_append_right _ (List.mem_append_left _ (List.mem_of_getElem? h))), hg⟩
theorem t_3 {i : Nat} {w : Cond} (h : tables_1_3[i]? = some w) (hg : goodWord w = true) : w ∈ gU := List.mem_filter.mpr ⟨List.mem_append_right _ (List.mem_append_right _ (List.mem_append_right _ (List.mem_append_left _ (List.mem_of_getElem? h)))), hg⟩
theorem t_4 {i : Nat} {w : Cond} (h : tables_1_4[i]? = some w) (hg : goodWord w = true) : w ∈ gU := List.mem_filter.mpr ⟨List.mem_append_right _ (List.mem_append_right _ (List.mem_append_right _ (List.mem_append_right _ (List.mem_append_left _ (List.mem_of_getElem? h))))), hg⟩
theorem t_5 {i : Nat} {w : Cond} (h : tables_1_5[i]? = some w) (hg : goodWord w = true) : w ∈ gU := List.mem_filter.mpr ⟨List.mem_append_right _ (List.mem_append_right _ (List.mem_append_right _ (List.mem_append_right _ (List.mem_append_right _ (List.mem_of_getElem? h))))), hg⟩
theorem t_s {i n : Nat} {y : MethodName} (h : lw_privs[i]? = some (y, n)) (hg : goodWord (Cond.selects y.cls y y) = true) : Cond.selects y.cls y y ∈ gU := List.mem_filter.mpr ⟨List.mem_append_left _ (List.mem_map.mpr ⟨(y, n), List.mem_of_getElem? h, rfl⟩), hg⟩
end
section
theorem ml_L_9 : Cond.methodLink RL 9 yX7_init ∈ gU := t_1 (i := 16) rfl rfl
theorem ml_X7_3 : Cond.methodLink RX7 3 objectInit ∈ gU := t_1 (i := 19) rfl rfl
theorem ml_X7_11 : Cond.methodLink RX7 11 yX5_init ∈ gU := t_1 (i := 25) rfl rfl
theorem ml_X5_3 : Cond.methodLink RX5 3 objectInit ∈ gU := t_1 (i := 28) rfl rfl
theorem ml_X5_9 : Cond.methodLink RX5 9 yJ9_max_7cf53 ∈ gU := t_1 (i := 29) rfl rfl
theorem fl_X5_15 : Cond.fieldLink RX5 15 (TX5 0).1 (TX5 0).2.1 (TX5 0).2.2.1 ∈ gU := t_1 (i := 32) rfl rfl
theorem fl_X6_65 : Cond.fieldLink RX6 65 (TX5 0).1 (TX5 0).2.1 (TX5 0).2.2.1 ∈ gU := t_1 (i := 33) rfl rfl
theorem fl_X5_21 : Cond.fieldLink RX5 21 (TX5 1).1 (TX5 1).2.1 (TX5 1).2.2.1 ∈ gU := t_1 (i := 34) rfl rfl
theorem fl_X6_59 : Cond.fieldLink RX6 59 (TX5 1).1 (TX5 1).2.1 (TX5 1).2.2.1 ∈ gU := t_1 (i := 35) rfl rfl
theorem fl_X7_81 : Cond.fieldLink RX7 81 (TX5 1).1 (TX5 1).2.1 (TX5 1).2.2.1 ∈ gU := t_1 (i := 36) rfl rfl
theorem ml_X6_3 : Cond.methodLink RX6 3 objectInit ∈ gU := t_1 (i := 48) rfl rfl
theorem ml_X0_3 : Cond.methodLink RX0 3 objectInit ∈ gU := t_1 (i := 54) rfl rfl
theorem fl_X0_9 : Cond.fieldLink RX0 9 (TX0 0).1 (TX0 0).2.1 (TX0 0).2.2.1 ∈ gU := t_1 (i := 55) rfl rfl
theorem fl_X7_134 : Cond.fieldLink RX7 134 (TX0 0).1 (TX0 0).2.1 (TX0 0).2.2.1 ∈ gU := t_1 (i := 56) rfl rfl
theorem fl_X0_15 : Cond.fieldLink RX0 15 (TX0 1).1 (TX0 1).2.1 (TX0 1).2.2.1 ∈ gU := t_1 (i := 57) rfl rfl
theorem fl_X6_72 : Cond.fieldLink RX6 72 (TX0 1).1 (TX0 1).2.1 (TX0 1).2.2.1 ∈ gU := t_1 (i := 58) rfl rfl
theorem fl_X7_131 : Cond.fieldLink RX7 131 (TX0 1).1 (TX0 1).2.1 (TX0 1).2.2.1 ∈ gU := t_1 (i := 59) rfl rfl
theorem fl_X4_26 : Cond.fieldLink RX4 26 (TX6 0).1 (TX6 0).2.1 (TX6 0).2.2.1 ∈ gU := t_1 (i := 65) rfl rfl
theorem fl_X6_62 : Cond.fieldLink RX6 62 (TX6 0).1 (TX6 0).2.1 (TX6 0).2.2.1 ∈ gU := t_1 (i := 66) rfl rfl
theorem fl_X1_102 : Cond.fieldLink RX1 102 (TX6 0).1 (TX6 0).2.1 (TX6 0).2.2.1 ∈ gU := t_1 (i := 67) rfl rfl
theorem fl_X7_92 : Cond.fieldLink RX7 92 (TX6 0).1 (TX6 0).2.1 (TX6 0).2.2.1 ∈ gU := t_1 (i := 68) rfl rfl
theorem fl_X6_9 : Cond.fieldLink RX6 9 (TX6 1).1 (TX6 1).2.1 (TX6 1).2.2.1 ∈ gU := t_1 (i := 69) rfl rfl
theorem fl_X1_52 : Cond.fieldLink RX1 52 (TX6 1).1 (TX6 1).2.1 (TX6 1).2.2.1 ∈ gU := t_1 (i := 70) rfl rfl
theorem fl_X4_31 : Cond.fieldLink RX4 31 (TX6 1).1 (TX6 1).2.1 (TX6 1).2.2.1 ∈ gU := t_1 (i := 71) rfl rfl
theorem fl_X7_95 : Cond.fieldLink RX7 95 (TX6 1).1 (TX6 1).2.1 (TX6 1).2.2.1 ∈ gU := t_1 (i := 72) rfl rfl
theorem fl_X6_15 : Cond.fieldLink RX6 15 (TX6 2).1 (TX6 2).2.1 (TX6 2).2.2.1 ∈ gU := t_1 (i := 73) rfl rfl
theorem fl_X7_98 : Cond.fieldLink RX7 98 (TX6 2).1 (TX6 2).2.1 (TX6 2).2.2.1 ∈ gU := t_1 (i := 74) rfl rfl
theorem fl_X6_18 : Cond.fieldLink RX6 18 (TX6 3).1 (TX6 3).2.1 (TX6 3).2.2.1 ∈ gU := t_1 (i := 75) rfl rfl
theorem fl_X7_101 : Cond.fieldLink RX7 101 (TX6 3).1 (TX6 3).2.1 (TX6 3).2.2.1 ∈ gU := t_1 (i := 76) rfl rfl
theorem fl_X6_21 : Cond.fieldLink RX6 21 (TX6 4).1 (TX6 4).2.1 (TX6 4).2.2.1 ∈ gU := t_1 (i := 77) rfl rfl
theorem fl_X1_122 : Cond.fieldLink RX1 122 (TX6 4).1 (TX6 4).2.1 (TX6 4).2.2.1 ∈ gU := t_1 (i := 78) rfl rfl
theorem fl_X7_104 : Cond.fieldLink RX7 104 (TX6 4).1 (TX6 4).2.1 (TX6 4).2.2.1 ∈ gU := t_1 (i := 79) rfl rfl
theorem fl_X6_24 : Cond.fieldLink RX6 24 (TX6 5).1 (TX6 5).2.1 (TX6 5).2.2.1 ∈ gU := t_1 (i := 80) rfl rfl
theorem fl_X4_41 : Cond.fieldLink RX4 41 (TX6 5).1 (TX6 5).2.1 (TX6 5).2.2.1 ∈ gU := t_1 (i := 81) rfl rfl
theorem fl_X1_108 : Cond.fieldLink RX1 108 (TX6 5).1 (TX6 5).2.1 (TX6 5).2.2.1 ∈ gU := t_1 (i := 82) rfl rfl
theorem fl_X6_27 : Cond.fieldLink RX6 27 (TX6 6).1 (TX6 6).2.1 (TX6 6).2.2.1 ∈ gU := t_1 (i := 83) rfl rfl
theorem fl_X1_96 : Cond.fieldLink RX1 96 (TX6 6).1 (TX6 6).2.1 (TX6 6).2.2.1 ∈ gU := t_1 (i := 84) rfl rfl
theorem fl_X6_33 : Cond.fieldLink RX6 33 (TX6 7).1 (TX6 7).2.1 (TX6 7).2.2.1 ∈ gU := t_1 (i := 85) rfl rfl
theorem fl_X1_61 : Cond.fieldLink RX1 61 (TX6 7).1 (TX6 7).2.1 (TX6 7).2.2.1 ∈ gU := t_1 (i := 86) rfl rfl
theorem fl_X7_274 : Cond.fieldLink RX7 274 (TX6 7).1 (TX6 7).2.1 (TX6 7).2.2.1 ∈ gU := t_1 (i := 87) rfl rfl
theorem fl_X6_37 : Cond.fieldLink RX6 37 (TX6 8).1 (TX6 8).2.1 (TX6 8).2.2.1 ∈ gU := t_1 (i := 88) rfl rfl
theorem fl_X7_107 : Cond.fieldLink RX7 107 (TX6 8).1 (TX6 8).2.1 (TX6 8).2.2.1 ∈ gU := t_1 (i := 89) rfl rfl
theorem fl_X6_40 : Cond.fieldLink RX6 40 (TX6 9).1 (TX6 9).2.1 (TX6 9).2.2.1 ∈ gU := t_1 (i := 90) rfl rfl
theorem fl_X1_41 : Cond.fieldLink RX1 41 (TX6 9).1 (TX6 9).2.1 (TX6 9).2.2.1 ∈ gU := t_1 (i := 91) rfl rfl
theorem fl_X4_34 : Cond.fieldLink RX4 34 (TX6 9).1 (TX6 9).2.1 (TX6 9).2.2.1 ∈ gU := t_1 (i := 92) rfl rfl
theorem fl_X7_354 : Cond.fieldLink RX7 354 (TX6 9).1 (TX6 9).2.1 (TX6 9).2.2.1 ∈ gU := t_1 (i := 93) rfl rfl
theorem fl_X6_44 : Cond.fieldLink RX6 44 (TX6 10).1 (TX6 10).2.1 (TX6 10).2.2.1 ∈ gU := t_1 (i := 94) rfl rfl
theorem fl_X1_48 : Cond.fieldLink RX1 48 (TX6 10).1 (TX6 10).2.1 (TX6 10).2.2.1 ∈ gU := t_1 (i := 95) rfl rfl
theorem fl_X7_229 : Cond.fieldLink RX7 229 (TX6 10).1 (TX6 10).2.1 (TX6 10).2.2.1 ∈ gU := t_1 (i := 96) rfl rfl
theorem fl_X1_99 : Cond.fieldLink RX1 99 (TX6 11).1 (TX6 11).2.1 (TX6 11).2.2.1 ∈ gU := t_1 (i := 97) rfl rfl
theorem fl_X7_357 : Cond.fieldLink RX7 357 (TX6 11).1 (TX6 11).2.1 (TX6 11).2.2.1 ∈ gU := t_1 (i := 98) rfl rfl
theorem ml_X7_27 : Cond.methodLink RX7 27 yX1_init ∈ gU := t_1 (i := 126) rfl rfl
theorem ml_X1_3 : Cond.methodLink RX1 3 objectInit ∈ gU := t_1 (i := 129) rfl rfl
theorem fl_X1_37 : Cond.fieldLink RX1 37 (TX1 0).1 (TX1 0).2.1 (TX1 0).2.2.1 ∈ gU := t_1 (i := 135) rfl rfl
theorem fl_X1_47 : Cond.fieldLink RX1 47 (TX1 1).1 (TX1 1).2.1 (TX1 1).2.2.1 ∈ gU := t_1 (i := 136) rfl rfl
theorem fl_X7_360 : Cond.fieldLink RX7 360 (TX1 1).1 (TX1 1).2.1 (TX1 1).2.2.1 ∈ gU := t_1 (i := 137) rfl rfl
theorem fl_X1_51 : Cond.fieldLink RX1 51 (TX1 2).1 (TX1 2).2.1 (TX1 2).2.2.1 ∈ gU := t_1 (i := 138) rfl rfl
theorem fl_X4_49 : Cond.fieldLink RX4 49 (TX1 2).1 (TX1 2).2.1 (TX1 2).2.2.1 ∈ gU := t_1 (i := 139) rfl rfl
theorem fl_X1_9 : Cond.fieldLink RX1 9 (TX1 3).1 (TX1 3).2.1 (TX1 3).2.2.1 ∈ gU := t_1 (i := 140) rfl rfl
theorem fl_X7_202 : Cond.fieldLink RX7 202 (TX1 3).1 (TX1 3).2.1 (TX1 3).2.2.1 ∈ gU := t_1 (i := 141) rfl rfl
theorem fl_X1_18 : Cond.fieldLink RX1 18 (TX1 4).1 (TX1 4).2.1 (TX1 4).2.2.1 ∈ gU := t_1 (i := 142) rfl rfl
theorem fl_X7_174 : Cond.fieldLink RX7 174 (TX1 4).1 (TX1 4).2.1 (TX1 4).2.2.1 ∈ gU := t_1 (i := 143) rfl rfl
theorem fl_X1_66 : Cond.fieldLink RX1 66 (TX1 5).1 (TX1 5).2.1 (TX1 5).2.2.1 ∈ gU := t_1 (i := 144) rfl rfl
theorem fl_X1_24 : Cond.fieldLink RX1 24 (TX1 6).1 (TX1 6).2.1 (TX1 6).2.2.1 ∈ gU := t_1 (i := 145) rfl rfl
theorem fl_X1_27 : Cond.fieldLink RX1 27 (TX1 7).1 (TX1 7).2.1 (TX1 7).2.2.1 ∈ gU := t_1 (i := 146) rfl rfl
theorem fl_X1_30 : Cond.fieldLink RX1 30 (TX1 8).1 (TX1 8).2.1 (TX1 8).2.2.1 ∈ gU := t_1 (i := 147) rfl rfl
theorem fl_X1_33 : Cond.fieldLink RX1 33 (TX1 9).1 (TX1 9).2.1 (TX1 9).2.2.1 ∈ gU := t_1 (i := 148) rfl rfl
theorem fl_X1_132 : Cond.fieldLink RX1 132 (TX1 10).1 (TX1 10).2.1 (TX1 10).2.2.1 ∈ gU := t_1 (i := 149) rfl rfl
theorem fl_X1_69 : Cond.fieldLink RX1 69 (TX1 11).1 (TX1 11).2.1 (TX1 11).2.2.1 ∈ gU := t_1 (i := 150) rfl rfl
theorem fl_X7_275 : Cond.fieldLink RX7 275 (TX1 11).1 (TX1 11).2.1 (TX1 11).2.2.1 ∈ gU := t_1 (i := 151) rfl rfl
theorem fl_X1_72 : Cond.fieldLink RX1 72 (TX1 12).1 (TX1 12).2.1 (TX1 12).2.2.1 ∈ gU := t_1 (i := 152) rfl rfl
theorem fl_X7_140 : Cond.fieldLink RX7 140 (TX1 12).1 (TX1 12).2.1 (TX1 12).2.2.1 ∈ gU := t_1 (i := 153) rfl rfl
theorem fl_X1_75 : Cond.fieldLink RX1 75 (TX1 13).1 (TX1 13).2.1 (TX1 13).2.2.1 ∈ gU := t_1 (i := 154) rfl rfl
theorem fl_X7_143 : Cond.fieldLink RX7 143 (TX1 13).1 (TX1 13).2.1 (TX1 13).2.2.1 ∈ gU := t_1 (i := 155) rfl rfl
theorem fl_X1_78 : Cond.fieldLink RX1 78 (TX1 14).1 (TX1 14).2.1 (TX1 14).2.2.1 ∈ gU := t_1 (i := 156) rfl rfl
theorem fl_X7_146 : Cond.fieldLink RX7 146 (TX1 14).1 (TX1 14).2.1 (TX1 14).2.2.1 ∈ gU := t_1 (i := 157) rfl rfl
theorem fl_X1_81 : Cond.fieldLink RX1 81 (TX1 15).1 (TX1 15).2.1 (TX1 15).2.2.1 ∈ gU := t_1 (i := 158) rfl rfl
theorem fl_X7_149 : Cond.fieldLink RX7 149 (TX1 15).1 (TX1 15).2.1 (TX1 15).2.2.1 ∈ gU := t_1 (i := 159) rfl rfl
theorem ml_X4_3 : Cond.methodLink RX4 3 objectInit ∈ gU := t_1 (i := 198) rfl rfl
theorem fl_X4_9 : Cond.fieldLink RX4 9 (TX4 0).1 (TX4 0).2.1 (TX4 0).2.2.1 ∈ gU := t_1 (i := 199) rfl rfl
theorem fl_X4_15 : Cond.fieldLink RX4 15 (TX4 1).1 (TX4 1).2.1 (TX4 1).2.2.1 ∈ gU := t_1 (i := 200) rfl rfl
theorem fl_X4_19 : Cond.fieldLink RX4 19 (TX4 2).1 (TX4 2).2.1 (TX4 2).2.2.1 ∈ gU := t_1 (i := 201) rfl rfl
theorem fl_X4_23 : Cond.fieldLink RX4 23 (TX4 3).1 (TX4 3).2.1 (TX4 3).2.2.1 ∈ gU := t_1 (i := 202) rfl rfl
theorem ml_X3_3 : Cond.methodLink RX3 3 objectInit ∈ gU := t_1 (i := 218) rfl rfl
theorem fl_X3_9 : Cond.fieldLink RX3 9 (TX3 0).1 (TX3 0).2.1 (TX3 0).2.2.1 ∈ gU := t_1 (i := 219) rfl rfl
theorem fl_X3_15 : Cond.fieldLink RX3 15 (TX3 1).1 (TX3 1).2.1 (TX3 1).2.2.1 ∈ gU := t_1 (i := 220) rfl rfl
theorem fl_X3_18 : Cond.fieldLink RX3 18 (TX3 2).1 (TX3 2).2.1 (TX3 2).2.2.1 ∈ gU := t_1 (i := 221) rfl rfl
theorem fl_X3_25 : Cond.fieldLink RX3 25 (TX3 3).1 (TX3 3).2.1 (TX3 3).2.2.1 ∈ gU := t_1 (i := 222) rfl rfl
theorem fl_X7_191 : Cond.fieldLink RX7 191 (TX3 3).1 (TX3 3).2.1 (TX3 3).2.2.1 ∈ gU := t_1 (i := 223) rfl rfl
theorem ml_X2_3 : Cond.methodLink RX2 3 objectInit ∈ gU := t_1 (i := 239) rfl rfl
theorem fl_X2_9 : Cond.fieldLink RX2 9 (TX2 0).1 (TX2 0).2.1 (TX2 0).2.2.1 ∈ gU := t_2 (i := 0) rfl rfl
theorem fl_X7_257 : Cond.fieldLink RX7 257 (TX2 0).1 (TX2 0).2.1 (TX2 0).2.2.1 ∈ gU := t_2 (i := 1) rfl rfl
theorem fl_X2_19 : Cond.fieldLink RX2 19 (TX2 1).1 (TX2 1).2.1 (TX2 1).2.2.1 ∈ gU := t_2 (i := 2) rfl rfl
theorem fl_X7_201 : Cond.fieldLink RX7 201 (TX2 1).1 (TX2 1).2.1 (TX2 1).2.2.1 ∈ gU := t_2 (i := 3) rfl rfl
theorem fl_X2_15 : Cond.fieldLink RX2 15 (TX2 2).1 (TX2 2).2.1 (TX2 2).2.2.1 ∈ gU := t_2 (i := 4) rfl rfl
theorem fl_X7_198 : Cond.fieldLink RX7 198 (TX2 2).1 (TX2 2).2.1 (TX2 2).2.2.1 ∈ gU := t_2 (i := 5) rfl rfl
theorem ml_X7_67 : Cond.methodLink RX7 67 yX7_tellAnew ∈ gU := t_2 (i := 14) rfl rfl
theorem ml_X7_345 : Cond.methodLink RX7 345 yX6_readRiders ∈ gU := t_2 (i := 18) rfl rfl
theorem ml_X6_47 : Cond.methodLink RX6 47 yJ7_fill_53178 ∈ gU := t_2 (i := 22) rfl rfl
theorem ml_X6_53 : Cond.methodLink RX6 53 yX5_faultAsRiders ∈ gU := t_2 (i := 25) rfl rfl
theorem ml_X5_29 : Cond.methodLink RX5 29 yX5_fitsRider ∈ gU := t_2 (i := 29) rfl rfl
theorem ml_X6_68 : Cond.methodLink RX6 68 yX6_placeOnBoard ∈ gU := t_2 (i := 32) rfl rfl
theorem ml_X7_349 : Cond.methodLink RX7 349 yX6_readBag ∈ gU := t_2 (i := 36) rfl rfl
theorem ml_X6_73 : Cond.methodLink RX6 73 yX5_faultAsBag ∈ gU := t_2 (i := 40) rfl rfl
theorem ml_X5_33 : Cond.methodLink RX5 33 yX5_kindOf ∈ gU := t_2 (i := 44) rfl rfl
theorem ml_X6_76 : Cond.methodLink RX6 76 yX5_kindOf ∈ gU := t_2 (i := 47) rfl rfl
theorem ml_X6_80 : Cond.methodLink RX6 80 yX0_putAtBottom ∈ gU := t_2 (i := 48) rfl rfl
theorem ml_X7_352 : Cond.methodLink RX7 352 yX4_startAnew ∈ gU := t_2 (i := 52) rfl rfl
theorem ml_X4_37 : Cond.methodLink RX4 37 yX6_mayChange ∈ gU := t_2 (i := 56) rfl rfl
theorem ml_X7_171 : Cond.methodLink RX7 171 yX1_begin ∈ gU := t_2 (i := 60) rfl rfl
theorem ml_X1_55 : Cond.methodLink RX1 55 arraycopyName ∈ gU := t_2 (i := 64) rfl rfl
theorem ml_X1_62 : Cond.methodLink RX1 62 yX0_become ∈ gU := t_2 (i := 67) rfl rfl
theorem ml_X0_19 : Cond.methodLink RX0 19 arraycopyName ∈ gU := t_2 (i := 71) rfl rfl
theorem ml_X7_181 : Cond.methodLink RX7 181 yX1_go ∈ gU := t_2 (i := 72) rfl rfl
theorem ml_X1_84 : Cond.methodLink RX1 84 yX1_leaveAt ∈ gU := t_2 (i := 76) rfl rfl
theorem ml_X1_105 : Cond.methodLink RX1 105 yX0_putAtBottom ∈ gU := t_2 (i := 80) rfl rfl
theorem ml_X1_88 : Cond.methodLink RX1 88 yX1_changeAt ∈ gU := t_2 (i := 81) rfl rfl
theorem ml_X1_111 : Cond.methodLink RX1 111 yX6_mayChange ∈ gU := t_2 (i := 85) rfl rfl
theorem ml_X1_115 : Cond.methodLink RX1 115 yX1_takeWhole ∈ gU := t_2 (i := 86) rfl rfl
theorem ml_X1_125 : Cond.methodLink RX1 125 yX0_placeOf ∈ gU := t_2 (i := 90) rfl rfl
theorem ml_X1_129 : Cond.methodLink RX1 129 yX0_takeOut ∈ gU := t_2 (i := 94) rfl rfl
theorem ml_X1_118 : Cond.methodLink RX1 118 yX1_takeTorn ∈ gU := t_2 (i := 98) rfl rfl
theorem ml_X1_92 : Cond.methodLink RX1 92 yX1_keep ∈ gU := t_2 (i := 102) rfl rfl
theorem fl_X7_14 : Cond.fieldLink RX7 14 (TX7 0).1 (TX7 0).2.1 (TX7 0).2.2.1 ∈ gU := t_2 (i := 106) rfl rfl
theorem fl_X7_21 : Cond.fieldLink RX7 21 (TX7 1).1 (TX7 1).2.1 (TX7 1).2.2.1 ∈ gU := t_2 (i := 107) rfl rfl
theorem fl_X7_30 : Cond.fieldLink RX7 30 (TX7 2).1 (TX7 2).2.1 (TX7 2).2.2.1 ∈ gU := t_2 (i := 108) rfl rfl
theorem fl_X7_34 : Cond.fieldLink RX7 34 (TX7 3).1 (TX7 3).2.1 (TX7 3).2.2.1 ∈ gU := t_2 (i := 109) rfl rfl
theorem fl_X7_40 : Cond.fieldLink RX7 40 (TX7 4).1 (TX7 4).2.1 (TX7 4).2.2.1 ∈ gU := t_2 (i := 110) rfl rfl
theorem fl_X7_47 : Cond.fieldLink RX7 47 (TX7 5).1 (TX7 5).2.1 (TX7 5).2.2.1 ∈ gU := t_2 (i := 111) rfl rfl
theorem fl_X7_54 : Cond.fieldLink RX7 54 (TX7 6).1 (TX7 6).2.1 (TX7 6).2.2.1 ∈ gU := t_2 (i := 112) rfl rfl
theorem fl_X7_60 : Cond.fieldLink RX7 60 (TX7 7).1 (TX7 7).2.1 (TX7 7).2.2.1 ∈ gU := t_2 (i := 113) rfl rfl
theorem fl_X7_63 : Cond.fieldLink RX7 63 (TX7 8).1 (TX7 8).2.1 (TX7 8).2.2.1 ∈ gU := t_2 (i := 114) rfl rfl
theorem fl_X7_278 : Cond.fieldLink RX7 278 (TX7 9).1 (TX7 9).2.1 (TX7 9).2.2.1 ∈ gU := t_2 (i := 115) rfl rfl
theorem ml_L_13 : Cond.methodLink RL 13 yX7_type ∈ gU := t_2 (i := 137) rfl rfl
theorem ml_X7_70 : Cond.methodLink RX7 70 yX7_isOutside ∈ gU := t_2 (i := 141) rfl rfl
theorem ml_X7_74 : Cond.methodLink RX7 74 yX5_isFull ∈ gU := t_2 (i := 144) rfl rfl
theorem ml_X7_78 : Cond.methodLink RX7 78 yX5_append ∈ gU := t_2 (i := 148) rfl rfl
theorem ml_X5_25 : Cond.methodLink RX5 25 yX5_isFull ∈ gU := t_2 (i := 152) rfl rfl
theorem ml_L_18 : Cond.methodLink RL 18 yX7_wipe ∈ gU := t_2 (i := 153) rfl rfl
theorem ml_L_23 : Cond.methodLink RL 23 yX7_undo ∈ gU := t_2 (i := 157) rfl rfl
theorem ml_L_27 : Cond.methodLink RL 27 yX7_fault ∈ gU := t_2 (i := 161) rfl rfl
theorem ml_X7_85 : Cond.methodLink RX7 85 yX5_faultAsRiders ∈ gU := t_2 (i := 165) rfl rfl
theorem ml_X7_89 : Cond.methodLink RX7 89 yX5_faultAsBag ∈ gU := t_2 (i := 166) rfl rfl
theorem ml_L_31 : Cond.methodLink RL 31 yX7_rider ∈ gU := t_2 (i := 167) rfl rfl
theorem ml_L_35 : Cond.methodLink RL 35 yX7_worth ∈ gU := t_2 (i := 171) rfl rfl
theorem ml_L_39 : Cond.methodLink RL 39 yX7_set ∈ gU := t_2 (i := 175) rfl rfl
theorem ml_X7_110 : Cond.methodLink RX7 110 yX7_tellEven ∈ gU := t_2 (i := 179) rfl rfl
theorem ml_X7_114 : Cond.methodLink RX7 114 yX7_tellChanges ∈ gU := t_2 (i := 183) rfl rfl
theorem ml_X7_117 : Cond.methodLink RX7 117 yX7_tellForgets ∈ gU := t_2 (i := 187) rfl rfl
theorem ml_L_43 : Cond.methodLink RL 43 yX7_has ∈ gU := t_2 (i := 191) rfl rfl
theorem ml_X7_120 : Cond.methodLink RX7 120 yX1_hasOn ∈ gU := t_2 (i := 195) rfl rfl
theorem ml_X1_135 : Cond.methodLink RX1 135 yJ9_min_7cf53 ∈ gU := t_2 (i := 199) rfl rfl
theorem ml_L_47 : Cond.methodLink RL 47 yX7_torn ∈ gU := t_2 (i := 202) rfl rfl
theorem ml_X7_124 : Cond.methodLink RX7 124 yX1_tornOn ∈ gU := t_2 (i := 206) rfl rfl
theorem ml_L_51 : Cond.methodLink RL 51 yX7_bag ∈ gU := t_2 (i := 210) rfl rfl
theorem ml_X7_127 : Cond.methodLink RX7 127 yX1_bagOn ∈ gU := t_2 (i := 214) rfl rfl
theorem ml_L_55 : Cond.methodLink RL 55 yX7_gets ∈ gU := t_2 (i := 218) rfl rfl
theorem ml_X7_137 : Cond.methodLink RX7 137 yX1_servedOn ∈ gU := t_2 (i := 222) rfl rfl
theorem ml_L_59 : Cond.methodLink RL 59 yX7_first ∈ gU := t_2 (i := 226) rfl rfl
theorem ml_L_63 : Cond.methodLink RL 63 yX7_still ∈ gU := t_2 (i := 230) rfl rfl
theorem ml_L_68 : Cond.methodLink RL 68 yX7_served ∈ gU := t_2 (i := 234) rfl rfl
theorem ml_L_72 : Cond.methodLink RL 72 yX7_rings ∈ gU := t_2 (i := 238) rfl rfl
theorem ml_X7_152 : Cond.methodLink RX7 152 yX6_isRing ∈ gU := t_3 (i := 2) rfl rfl
theorem ml_L_76 : Cond.methodLink RL 76 yX7_open ∈ gU := t_3 (i := 6) rfl rfl
theorem ml_X7_156 : Cond.methodLink RX7 156 yJ6_bitCount_0f7a4 ∈ gU := t_3 (i := 10) rfl rfl
theorem co_J6_265 : Cond.constant RJ6 265 (1431655765) ∈ gU := t_3 (i := 13) rfl rfl
theorem co_J6_266 : Cond.constant RJ6 266 (858993459) ∈ gU := t_3 (i := 14) rfl rfl
theorem co_J6_267 : Cond.constant RJ6 267 (252645135) ∈ gU := t_3 (i := 15) rfl rfl
theorem ml_X7_161 : Cond.methodLink RX7 161 yX4_servedBy ∈ gU := t_3 (i := 16) rfl rfl
theorem ml_X4_44 : Cond.methodLink RX4 44 yX1_begin ∈ gU := t_3 (i := 20) rfl rfl
theorem ml_X4_52 : Cond.methodLink RX4 52 yX1_go ∈ gU := t_3 (i := 21) rfl rfl
theorem ml_X4_55 : Cond.methodLink RX4 55 yX1_servedOn ∈ gU := t_3 (i := 22) rfl rfl
theorem ml_X4_59 : Cond.methodLink RX4 59 yJ9_min_7cf53 ∈ gU := t_3 (i := 23) rfl rfl
theorem ml_L_80 : Cond.methodLink RL 80 yX7_least ∈ gU := t_3 (i := 24) rfl rfl
theorem ml_X7_165 : Cond.methodLink RX7 165 yX7_rideWithEven ∈ gU := t_3 (i := 28) rfl rfl
theorem ml_X7_168 : Cond.methodLink RX7 168 yX1_servedAtLast ∈ gU := t_3 (i := 32) rfl rfl
theorem ml_X1_141 : Cond.methodLink RX1 141 yJ6_bitCount_0f7a4 ∈ gU := t_3 (i := 36) rfl rfl
theorem ml_L_84 : Cond.methodLink RL 84 yX7_top ∈ gU := t_3 (i := 37) rfl rfl
theorem ml_X7_178 : Cond.methodLink RX7 178 yX0_putOnTop ∈ gU := t_3 (i := 41) rfl rfl
theorem ml_L_88 : Cond.methodLink RL 88 yX7_seen ∈ gU := t_3 (i := 45) rfl rfl
theorem ml_X7_184 : Cond.methodLink RX7 184 yX3_mayBe ∈ gU := t_3 (i := 49) rfl rfl
theorem ml_X7_187 : Cond.methodLink RX7 187 yX3_isFull ∈ gU := t_3 (i := 53) rfl rfl
theorem ml_X7_188 : Cond.methodLink RX7 188 yX3_append ∈ gU := t_3 (i := 57) rfl rfl
theorem ml_X3_29 : Cond.methodLink RX3 29 yX3_isFull ∈ gU := t_3 (i := 61) rfl rfl
theorem ml_L_93 : Cond.methodLink RL 93 yX7_forget ∈ gU := t_3 (i := 62) rfl rfl
theorem ml_L_97 : Cond.methodLink RL 97 yX7_read ∈ gU := t_3 (i := 66) rfl rfl
theorem ml_X7_192 : Cond.methodLink RX7 192 yX2_isLost ∈ gU := t_3 (i := 70) rfl rfl
theorem ml_X7_195 : Cond.methodLink RX7 195 yX7_finding ∈ gU := t_3 (i := 74) rfl rfl
theorem ml_L_101 : Cond.methodLink RL 101 yX7_had ∈ gU := t_3 (i := 78) rfl rfl
theorem ml_X7_205 : Cond.methodLink RX7 205 yX3_comeOutIn ∈ gU := t_3 (i := 82) rfl rfl
theorem ml_X3_33 : Cond.methodLink RX3 33 yX1_hasOn ∈ gU := t_3 (i := 86) rfl rfl
theorem ml_L_105 : Cond.methodLink RL 105 yX7_was ∈ gU := t_3 (i := 87) rfl rfl
theorem ml_L_109 : Cond.methodLink RL 109 yX7_ask ∈ gU := t_3 (i := 91) rfl rfl
theorem ml_X7_209 : Cond.methodLink RX7 209 yX7_clearAlike ∈ gU := t_3 (i := 95) rfl rfl
theorem ml_X7_223 : Cond.methodLink RX7 223 yJ7_fill_53178 ∈ gU := t_3 (i := 99) rfl rfl
theorem ml_X7_212 : Cond.methodLink RX7 212 yX7_countAlike ∈ gU := t_3 (i := 100) rfl rfl
theorem ml_X7_215 : Cond.methodLink RX7 215 yX7_greatestOf ∈ gU := t_3 (i := 104) rfl rfl
theorem ml_X7_361 : Cond.methodLink RX7 361 yJ9_max_7cf53 ∈ gU := t_3 (i := 107) rfl rfl
theorem ml_L_113 : Cond.methodLink RL 113 yX7_maybe ∈ gU := t_3 (i := 108) rfl rfl
theorem co_X7_221 : Cond.constantLong RX7 221 (-9223372036854775806) ∈ gU := t_3 (i := 112) rfl rfl
theorem ml_X7_232 : Cond.methodLink RX7 232 yX7_chanceAbove ∈ gU := t_3 (i := 113) rfl rfl
theorem co_X7_236 : Cond.constantLong RX7 236 (2) ∈ gU := t_3 (i := 117) rfl rfl
theorem ml_L_118 : Cond.methodLink RL 118 yX7_depot ∈ gU := t_3 (i := 118) rfl rfl
theorem co_X7_238 : Cond.constant RX7 238 (1103515245) ∈ gU := t_3 (i := 122) rfl rfl
theorem ml_X7_239 : Cond.methodLink RX7 239 yX0_putAtBottom ∈ gU := t_3 (i := 123) rfl rfl
theorem ml_L_122 : Cond.methodLink RL 122 yX7_sheet ∈ gU := t_3 (i := 124) rfl rfl
theorem ml_X7_242 : Cond.methodLink RX7 242 yX2_startAnew ∈ gU := t_3 (i := 128) rfl rfl
theorem ml_X2_22 : Cond.methodLink RX2 22 yJ7_fill_53178 ∈ gU := t_3 (i := 132) rfl rfl
theorem ml_L_126 : Cond.methodLink RL 126 yX7_lose ∈ gU := t_3 (i := 133) rfl rfl
theorem ml_X7_246 : Cond.methodLink RX7 246 yX2_giveUp ∈ gU := t_3 (i := 137) rfl rfl
theorem ml_L_130 : Cond.methodLink RL 130 yX7_lay ∈ gU := t_3 (i := 141) rfl rfl
theorem ml_X7_249 : Cond.methodLink RX7 249 yX7_refusalOfItem ∈ gU := t_3 (i := 145) rfl rfl
theorem ml_X7_260 : Cond.methodLink RX7 260 yX2_hasItems ∈ gU := t_3 (i := 149) rfl rfl
theorem ml_X7_253 : Cond.methodLink RX7 253 yX2_put ∈ gU := t_3 (i := 153) rfl rfl
theorem ml_L_135 : Cond.methodLink RL 135 yX7_get ∈ gU := t_3 (i := 157) rfl rfl
theorem co_X7_256 : Cond.constant RX7 256 (-2147483648) ∈ gU := t_3 (i := 161) rfl rfl
theorem ml_L_139 : Cond.methodLink RL 139 yX7_copy ∈ gU := t_3 (i := 162) rfl rfl
theorem ml_X7_263 : Cond.methodLink RX7 263 arraycopyName ∈ gU := t_3 (i := 166) rfl rfl
theorem ml_L_144 : Cond.methodLink RL 144 yX7_write ∈ gU := t_3 (i := 167) rfl rfl
theorem ml_X7_269 : Cond.methodLink RX7 269 yJ9_min_7cf53 ∈ gU := t_3 (i := 171) rfl rfl
theorem ml_L_148 : Cond.methodLink RL 148 yX7_count ∈ gU := t_3 (i := 172) rfl rfl
theorem ml_L_152 : Cond.methodLink RL 152 yX7_digest ∈ gU := t_3 (i := 176) rfl rfl
theorem co_X7_281 : Cond.constantLong RX7 281 (17) ∈ gU := t_3 (i := 180) rfl rfl
theorem ml_X7_283 : Cond.methodLink RX7 283 yX7_count ∈ gU := t_3 (i := 181) rfl rfl
theorem ml_X7_286 : Cond.methodLink RX7 286 yX7_mix ∈ gU := t_3 (i := 182) rfl rfl
theorem co_X7_343 : Cond.constantLong RX7 343 (31) ∈ gU := t_3 (i := 185) rfl rfl
theorem ml_X7_290 : Cond.methodLink RX7 290 yX7_fault ∈ gU := t_3 (i := 186) rfl rfl
theorem ml_X7_293 : Cond.methodLink RX7 293 yX7_rider ∈ gU := t_3 (i := 187) rfl rfl
theorem ml_X7_296 : Cond.methodLink RX7 296 yX7_has ∈ gU := t_3 (i := 188) rfl rfl
theorem ml_X7_298 : Cond.methodLink RX7 298 yX7_torn ∈ gU := t_3 (i := 189) rfl rfl
theorem ml_X7_301 : Cond.methodLink RX7 301 yX7_gets ∈ gU := t_3 (i := 190) rfl rfl
theorem ml_X7_304 : Cond.methodLink RX7 304 yX7_open ∈ gU := t_3 (i := 191) rfl rfl
theorem ml_X7_307 : Cond.methodLink RX7 307 yX7_had ∈ gU := t_3 (i := 192) rfl rfl
theorem ml_X7_310 : Cond.methodLink RX7 310 yX7_maybe ∈ gU := t_3 (i := 193) rfl rfl
theorem ml_X7_314 : Cond.methodLink RX7 314 yX7_served ∈ gU := t_3 (i := 194) rfl rfl
theorem ml_X7_317 : Cond.methodLink RX7 317 yX7_bag ∈ gU := t_3 (i := 195) rfl rfl
theorem ml_X7_319 : Cond.methodLink RX7 319 yX7_ask ∈ gU := t_3 (i := 196) rfl rfl
theorem ml_X7_322 : Cond.methodLink RX7 322 yX7_first ∈ gU := t_3 (i := 197) rfl rfl
theorem ml_X7_325 : Cond.methodLink RX7 325 yX7_still ∈ gU := t_3 (i := 198) rfl rfl
theorem ml_X7_328 : Cond.methodLink RX7 328 yX7_rings ∈ gU := t_3 (i := 199) rfl rfl
theorem ml_X7_331 : Cond.methodLink RX7 331 yX7_least ∈ gU := t_3 (i := 200) rfl rfl
theorem ml_X7_334 : Cond.methodLink RX7 334 yX7_top ∈ gU := t_3 (i := 201) rfl rfl
theorem ml_X7_337 : Cond.methodLink RX7 337 yX7_was ∈ gU := t_3 (i := 202) rfl rfl
theorem ml_X7_340 : Cond.methodLink RX7 340 yX7_depot ∈ gU := t_3 (i := 203) rfl rfl
theorem ml_L_12 : Cond.methodLink RL 12 yX8_init ∈ gU := t_3 (i := 206) rfl rfl
theorem ml_X8_1 : Cond.methodLink RX8 1 objectInit ∈ gU := t_3 (i := 209) rfl rfl
theorem fl_X8_7 : Cond.fieldLink RX8 7 (TX8 0).1 (TX8 0).2.1 (TX8 0).2.2.1 ∈ gU := t_3 (i := 210) rfl rfl
theorem fl_X8_13 : Cond.fieldLink RX8 13 (TX8 1).1 (TX8 1).2.1 (TX8 1).2.2.1 ∈ gU := t_3 (i := 211) rfl rfl
theorem fl_X8_16 : Cond.fieldLink RX8 16 (TX8 2).1 (TX8 2).2.1 (TX8 2).2.2.1 ∈ gU := t_3 (i := 212) rfl rfl
theorem fl_X8_19 : Cond.fieldLink RX8 19 (TX8 3).1 (TX8 3).2.1 (TX8 3).2.2.1 ∈ gU := t_3 (i := 213) rfl rfl
theorem fl_X8_80 : Cond.fieldLink RX8 80 (TX8 4).1 (TX8 4).2.1 (TX8 4).2.2.1 ∈ gU := t_3 (i := 214) rfl rfl
theorem fl_X8_22 : Cond.fieldLink RX8 22 (TX8 5).1 (TX8 5).2.1 (TX8 5).2.2.1 ∈ gU := t_3 (i := 215) rfl rfl
theorem fl_X8_25 : Cond.fieldLink RX8 25 (TX8 6).1 (TX8 6).2.1 (TX8 6).2.2.1 ∈ gU := t_3 (i := 216) rfl rfl
theorem fl_X8_120 : Cond.fieldLink RX8 120 (TX8 7).1 (TX8 7).2.1 (TX8 7).2.2.1 ∈ gU := t_3 (i := 217) rfl rfl
theorem fl_X8_28 : Cond.fieldLink RX8 28 (TX8 8).1 (TX8 8).2.1 (TX8 8).2.2.1 ∈ gU := t_3 (i := 218) rfl rfl
theorem fl_X8_126 : Cond.fieldLink RX8 126 (TX8 9).1 (TX8 9).2.1 (TX8 9).2.2.1 ∈ gU := t_3 (i := 219) rfl rfl
theorem fl_X8_31 : Cond.fieldLink RX8 31 (TX8 10).1 (TX8 10).2.1 (TX8 10).2.2.1 ∈ gU := t_3 (i := 220) rfl rfl
theorem fl_X8_34 : Cond.fieldLink RX8 34 (TX8 11).1 (TX8 11).2.1 (TX8 11).2.2.1 ∈ gU := t_3 (i := 221) rfl rfl
theorem fl_X8_37 : Cond.fieldLink RX8 37 (TX8 12).1 (TX8 12).2.1 (TX8 12).2.2.1 ∈ gU := t_3 (i := 222) rfl rfl
theorem fl_X8_70 : Cond.fieldLink RX8 70 (TX8 13).1 (TX8 13).2.1 (TX8 13).2.2.1 ∈ gU := t_3 (i := 223) rfl rfl
theorem fl_X8_40 : Cond.fieldLink RX8 40 (TX8 14).1 (TX8 14).2.1 (TX8 14).2.2.1 ∈ gU := t_3 (i := 224) rfl rfl
theorem fl_X8_43 : Cond.fieldLink RX8 43 (TX8 15).1 (TX8 15).2.1 (TX8 15).2.2.1 ∈ gU := t_3 (i := 225) rfl rfl
theorem fl_X8_150 : Cond.fieldLink RX8 150 (TX8 16).1 (TX8 16).2.1 (TX8 16).2.2.1 ∈ gU := t_3 (i := 226) rfl rfl
theorem fl_X8_147 : Cond.fieldLink RX8 147 (TX8 17).1 (TX8 17).2.1 (TX8 17).2.2.1 ∈ gU := t_3 (i := 227) rfl rfl
theorem fl_X8_46 : Cond.fieldLink RX8 46 (TX8 18).1 (TX8 18).2.1 (TX8 18).2.2.1 ∈ gU := t_3 (i := 228) rfl rfl
theorem fl_X8_49 : Cond.fieldLink RX8 49 (TX8 19).1 (TX8 19).2.1 (TX8 19).2.2.1 ∈ gU := t_3 (i := 229) rfl rfl
theorem fl_X8_52 : Cond.fieldLink RX8 52 (TX8 20).1 (TX8 20).2.1 (TX8 20).2.2.1 ∈ gU := t_3 (i := 230) rfl rfl
theorem fl_X8_55 : Cond.fieldLink RX8 55 (TX8 21).1 (TX8 21).2.1 (TX8 21).2.2.1 ∈ gU := t_3 (i := 231) rfl rfl
theorem fl_X8_58 : Cond.fieldLink RX8 58 (TX8 22).1 (TX8 22).2.1 (TX8 22).2.2.1 ∈ gU := t_3 (i := 232) rfl rfl
theorem fl_X8_61 : Cond.fieldLink RX8 61 (TX8 23).1 (TX8 23).2.1 (TX8 23).2.2.1 ∈ gU := t_3 (i := 233) rfl rfl
theorem fl_X8_180 : Cond.fieldLink RX8 180 (TX8 24).1 (TX8 24).2.1 (TX8 24).2.2.1 ∈ gU := t_3 (i := 234) rfl rfl
theorem fl_X8_183 : Cond.fieldLink RX8 183 (TX8 25).1 (TX8 25).2.1 (TX8 25).2.2.1 ∈ gU := t_3 (i := 235) rfl rfl
theorem fl_X8_247 : Cond.fieldLink RX8 247 (TX8 26).1 (TX8 26).2.1 (TX8 26).2.2.1 ∈ gU := t_3 (i := 236) rfl rfl
theorem fl_X8_64 : Cond.fieldLink RX8 64 (TX8 27).1 (TX8 27).2.1 (TX8 27).2.2.1 ∈ gU := t_3 (i := 237) rfl rfl
theorem fl_X8_67 : Cond.fieldLink RX8 67 (TX8 28).1 (TX8 28).2.1 (TX8 28).2.2.1 ∈ gU := t_3 (i := 238) rfl rfl
theorem fl_X8_281 : Cond.fieldLink RX8 281 (TX8 29).1 (TX8 29).2.1 (TX8 29).2.2.1 ∈ gU := t_3 (i := 239) rfl rfl
theorem ml_L_125 : Cond.methodLink RL 125 yX8_sheet ∈ gU := t_4 (i := 61) rfl rfl
theorem ml_X8_85 : Cond.methodLink RX8 85 yX8_isSheet ∈ gU := t_4 (i := 65) rfl rfl
theorem co_X8_83 : Cond.constantLong RX8 83 (3) ∈ gU := t_4 (i := 68) rfl rfl
theorem ml_X8_76 : Cond.methodLink RX8 76 yX8_in ∈ gU := t_4 (i := 69) rfl rfl
theorem co_X8_89 : Cond.constantLong RX8 89 (2) ∈ gU := t_4 (i := 72) rfl rfl
theorem ml_X8_91 : Cond.methodLink RX8 91 yX8_finds ∈ gU := t_4 (i := 73) rfl rfl
theorem ml_L_129 : Cond.methodLink RL 129 yX8_lose ∈ gU := t_4 (i := 77) rfl rfl
theorem ml_L_134 : Cond.methodLink RL 134 yX8_lay ∈ gU := t_4 (i := 81) rfl rfl
theorem ml_X8_95 : Cond.methodLink RX8 95 yX8_lacks ∈ gU := t_4 (i := 85) rfl rfl
theorem ml_X8_99 : Cond.methodLink RX8 99 yX8_cut ∈ gU := t_4 (i := 89) rfl rfl
theorem ml_L_138 : Cond.methodLink RL 138 yX8_get ∈ gU := t_4 (i := 92) rfl rfl
theorem co_X8_103 : Cond.constant RX8 103 (-2147483648) ∈ gU := t_4 (i := 96) rfl rfl
theorem ml_L_143 : Cond.methodLink RL 143 yX8_copy ∈ gU := t_4 (i := 97) rfl rfl
theorem ml_L_17 : Cond.methodLink RL 17 yX8_type ∈ gU := t_4 (i := 101) rfl rfl
theorem ml_X8_104 : Cond.methodLink RX8 104 yX8_isTwo ∈ gU := t_4 (i := 105) rfl rfl
theorem co_X8_107 : Cond.constantLong RX8 107 (255) ∈ gU := t_4 (i := 108) rfl rfl
theorem ml_L_22 : Cond.methodLink RL 22 yX8_wipe ∈ gU := t_4 (i := 109) rfl rfl
theorem ml_L_26 : Cond.methodLink RL 26 yX8_undo ∈ gU := t_4 (i := 113) rfl rfl
theorem ml_L_30 : Cond.methodLink RL 30 yX8_fault ∈ gU := t_4 (i := 117) rfl rfl
theorem ml_X8_133 : Cond.methodLink RX8 133 yX8_readsRiders ∈ gU := t_4 (i := 121) rfl rfl
theorem ml_X8_123 : Cond.methodLink RX8 123 yX8_riderOf ∈ gU := t_4 (i := 125) rfl rfl
theorem ml_X8_113 : Cond.methodLink RX8 113 yX8_letterOf ∈ gU := t_4 (i := 128) rfl rfl
theorem co_X8_109 : Cond.constantLong RX8 109 (97) ∈ gU := t_4 (i := 131) rfl rfl
theorem co_X8_111 : Cond.constantLong RX8 111 (104) ∈ gU := t_4 (i := 132) rfl rfl
theorem co_X8_116 : Cond.constantLong RX8 116 (48) ∈ gU := t_4 (i := 133) rfl rfl
theorem co_X8_118 : Cond.constantLong RX8 118 (57) ∈ gU := t_4 (i := 134) rfl rfl
theorem ml_X8_137 : Cond.methodLink RX8 137 yX8_readsBag ∈ gU := t_4 (i := 135) rfl rfl
theorem co_X8_129 : Cond.constantLong RX8 129 (65) ∈ gU := t_4 (i := 139) rfl rfl
theorem co_X8_131 : Cond.constantLong RX8 131 (72) ∈ gU := t_4 (i := 140) rfl rfl
theorem ml_L_34 : Cond.methodLink RL 34 yX8_rider ∈ gU := t_4 (i := 141) rfl rfl
theorem ml_X8_142 : Cond.methodLink RX8 142 yX8_isRider ∈ gU := t_4 (i := 145) rfl rfl
theorem ml_L_38 : Cond.methodLink RL 38 yX8_worth ∈ gU := t_4 (i := 149) rfl rfl
theorem co_X8_145 : Cond.constantLong RX8 145 (7) ∈ gU := t_4 (i := 153) rfl rfl
theorem co_X8_140 : Cond.constantLong RX8 140 (9) ∈ gU := t_4 (i := 154) rfl rfl
theorem ml_L_42 : Cond.methodLink RL 42 yX8_set ∈ gU := t_4 (i := 155) rfl rfl
theorem ml_L_46 : Cond.methodLink RL 46 yX8_has ∈ gU := t_4 (i := 159) rfl rfl
theorem ml_X8_198 : Cond.methodLink RX8 198 yX8_reads ∈ gU := t_4 (i := 163) rfl rfl
theorem ml_X8_195 : Cond.methodLink RX8 195 yX8_lives ∈ gU := t_4 (i := 167) rfl rfl
theorem ml_X8_186 : Cond.methodLink RX8 186 yX8_begins ∈ gU := t_4 (i := 171) rfl rfl
theorem ml_X8_160 : Cond.methodLink RX8 160 yX8_puts ∈ gU := t_4 (i := 175) rfl rfl
theorem ml_X8_189 : Cond.methodLink RX8 189 yX8_stops ∈ gU := t_4 (i := 179) rfl rfl
theorem ml_X8_153 : Cond.methodLink RX8 153 yX8_isIn ∈ gU := t_4 (i := 183) rfl rfl
theorem ml_X8_157 : Cond.methodLink RX8 157 yX8_may ∈ gU := t_4 (i := 186) rfl rfl
theorem ml_X8_177 : Cond.methodLink RX8 177 yX8_changesOne ∈ gU := t_4 (i := 190) rfl rfl
theorem ml_X8_164 : Cond.methodLink RX8 164 yX8_find ∈ gU := t_4 (i := 194) rfl rfl
theorem ml_X8_167 : Cond.methodLink RX8 167 yX8_takes ∈ gU := t_4 (i := 198) rfl rfl
theorem ml_X8_170 : Cond.methodLink RX8 170 yX8_gives ∈ gU := t_4 (i := 202) rfl rfl
theorem ml_X8_174 : Cond.methodLink RX8 174 yX8_other ∈ gU := t_4 (i := 206) rfl rfl
theorem ml_X8_192 : Cond.methodLink RX8 192 yX8_keeps ∈ gU := t_4 (i := 210) rfl rfl
theorem ml_X8_201 : Cond.methodLink RX8 201 yX8_isDay ∈ gU := t_4 (i := 214) rfl rfl
theorem ml_L_50 : Cond.methodLink RL 50 yX8_torn ∈ gU := t_4 (i := 217) rfl rfl
theorem ml_L_54 : Cond.methodLink RL 54 yX8_bag ∈ gU := t_4 (i := 221) rfl rfl
theorem co_X8_204 : Cond.constantLong RX8 204 (-1) ∈ gU := t_4 (i := 225) rfl rfl
theorem co_X8_206 : Cond.constantLong RX8 206 (27) ∈ gU := t_4 (i := 226) rfl rfl
theorem ml_X8_208 : Cond.methodLink RX8 208 yX8_bagOf ∈ gU := t_4 (i := 227) rfl rfl
theorem ml_L_58 : Cond.methodLink RL 58 yX8_gets ∈ gU := t_4 (i := 231) rfl rfl
theorem ml_X8_214 : Cond.methodLink RX8 214 yX8_getsOf ∈ gU := t_4 (i := 235) rfl rfl
theorem ml_X8_211 : Cond.methodLink RX8 211 yX8_isServed ∈ gU := t_4 (i := 239) rfl rfl
theorem ml_L_62 : Cond.methodLink RL 62 yX8_first ∈ gU := t_5 (i := 3) rfl rfl
theorem ml_L_67 : Cond.methodLink RL 67 yX8_still ∈ gU := t_5 (i := 7) rfl rfl
theorem ml_L_71 : Cond.methodLink RL 71 yX8_served ∈ gU := t_5 (i := 11) rfl rfl
theorem ml_X8_217 : Cond.methodLink RX8 217 yX8_servedBy ∈ gU := t_5 (i := 15) rfl rfl
theorem ml_L_75 : Cond.methodLink RL 75 yX8_rings ∈ gU := t_5 (i := 19) rfl rfl
theorem ml_X8_227 : Cond.methodLink RX8 227 yX8_ringsNow ∈ gU := t_5 (i := 23) rfl rfl
theorem ml_X8_223 : Cond.methodLink RX8 223 yX8_isRing ∈ gU := t_5 (i := 27) rfl rfl
theorem ml_X8_220 : Cond.methodLink RX8 220 yX8_wantsOf ∈ gU := t_5 (i := 31) rfl rfl
theorem ml_L_79 : Cond.methodLink RL 79 yX8_open ∈ gU := t_5 (i := 35) rfl rfl
theorem ml_X8_233 : Cond.methodLink RX8 233 yX8_openOf ∈ gU := t_5 (i := 39) rfl rfl
theorem ml_X8_230 : Cond.methodLink RX8 230 yX8_ones ∈ gU := t_5 (i := 43) rfl rfl
theorem ml_L_83 : Cond.methodLink RL 83 yX8_least ∈ gU := t_5 (i := 46) rfl rfl
theorem ml_X8_239 : Cond.methodLink RX8 239 yX8_leastOf ∈ gU := t_5 (i := 50) rfl rfl
theorem ml_X8_236 : Cond.methodLink RX8 236 yX8_greater ∈ gU := t_5 (i := 54) rfl rfl
theorem ml_L_87 : Cond.methodLink RL 87 yX8_top ∈ gU := t_5 (i := 57) rfl rfl
theorem ml_X8_242 : Cond.methodLink RX8 242 yX8_topOf ∈ gU := t_5 (i := 61) rfl rfl
theorem ml_L_92 : Cond.methodLink RL 92 yX8_seen ∈ gU := t_5 (i := 65) rfl rfl
theorem co_X8_245 : Cond.constantLong RX8 245 (8) ∈ gU := t_5 (i := 69) rfl rfl
theorem ml_L_96 : Cond.methodLink RL 96 yX8_forget ∈ gU := t_5 (i := 70) rfl rfl
theorem ml_L_100 : Cond.methodLink RL 100 yX8_read ∈ gU := t_5 (i := 74) rfl rfl
theorem ml_X8_250 : Cond.methodLink RX8 250 yX8_seen ∈ gU := t_5 (i := 78) rfl rfl
theorem ml_L_104 : Cond.methodLink RL 104 yX8_had ∈ gU := t_5 (i := 79) rfl rfl
theorem ml_X8_257 : Cond.methodLink RX8 257 yX8_hadOf ∈ gU := t_5 (i := 83) rfl rfl
theorem ml_X8_253 : Cond.methodLink RX8 253 yX8_isSeen ∈ gU := t_5 (i := 87) rfl rfl
theorem ml_L_108 : Cond.methodLink RL 108 yX8_was ∈ gU := t_5 (i := 91) rfl rfl
theorem ml_X8_260 : Cond.methodLink RX8 260 yX8_wasNow ∈ gU := t_5 (i := 95) rfl rfl
theorem ml_L_112 : Cond.methodLink RL 112 yX8_ask ∈ gU := t_5 (i := 99) rfl rfl
theorem ml_X8_263 : Cond.methodLink RX8 263 yX8_askOf ∈ gU := t_5 (i := 103) rfl rfl
theorem ml_L_117 : Cond.methodLink RL 117 yX8_maybe ∈ gU := t_5 (i := 107) rfl rfl
theorem co_X8_270 : Cond.constantLong RX8 270 (16) ∈ gU := t_5 (i := 111) rfl rfl
theorem ml_X8_272 : Cond.methodLink RX8 272 yX8_maybeOf ∈ gU := t_5 (i := 112) rfl rfl
theorem ml_X8_266 : Cond.methodLink RX8 266 yX8_part ∈ gU := t_5 (i := 116) rfl rfl
theorem ml_X8_276 : Cond.methodLink RX8 276 yX8_no ∈ gU := t_5 (i := 119) rfl rfl
theorem co_X8_74 : Cond.constantLong RX8 74 (-9223372036854775808) ∈ gU := t_5 (i := 122) rfl rfl
theorem ml_L_121 : Cond.methodLink RL 121 yX8_depot ∈ gU := t_5 (i := 123) rfl rfl
theorem ml_X8_287 : Cond.methodLink RX8 287 yX8_depotOf ∈ gU := t_5 (i := 127) rfl rfl
theorem ml_X8_284 : Cond.methodLink RX8 284 yX8_lot ∈ gU := t_5 (i := 131) rfl rfl
theorem co_X8_280 : Cond.constant RX8 280 (1103515245) ∈ gU := t_5 (i := 135) rfl rfl
theorem ml_L_147 : Cond.methodLink RL 147 yX8_write ∈ gU := t_5 (i := 136) rfl rfl
theorem ml_X8_290 : Cond.methodLink RX8 290 yX8_lesser ∈ gU := t_5 (i := 140) rfl rfl
theorem ml_L_151 : Cond.methodLink RL 151 yX8_count ∈ gU := t_5 (i := 143) rfl rfl
theorem ml_L_156 : Cond.methodLink RL 156 yX8_digest ∈ gU := t_5 (i := 147) rfl rfl
theorem co_X8_295 : Cond.constantLong RX8 295 (17) ∈ gU := t_5 (i := 151) rfl rfl
theorem co_X8_293 : Cond.constantLong RX8 293 (31) ∈ gU := t_5 (i := 152) rfl rfl
theorem ml_X8_297 : Cond.methodLink RX8 297 yX8_count ∈ gU := t_5 (i := 153) rfl rfl
theorem ml_X8_300 : Cond.methodLink RX8 300 yX8_tellsRider ∈ gU := t_5 (i := 154) rfl rfl
theorem ml_X8_304 : Cond.methodLink RX8 304 yX8_tellsDay ∈ gU := t_5 (i := 158) rfl rfl
theorem mi_X0_init : Cond.instanceMethod yX0_init ∈ gU ∧ Cond.initialized RX0 ∈ gU ∧ Cond.code yX0_init cX0_init 1 (none) ∈ gU := ⟨t_1 (i := 52) rfl rfl, t_1 (i := 5) rfl rfl, t_1 (i := 53) rfl rfl⟩
theorem mv_X0_become : Cond.instanceMethod yX0_become ∈ gU ∧ Cond.selects RX0 yX0_become yX0_become ∈ gU ∧ Cond.initialized RX0 ∈ gU ∧ Cond.code yX0_become cX0_become 2 (none) ∈ gU ∧ (yX0_become.cls = RX0 ∧ yX0_become.cls ≠ "java/lang/invoke/MethodHandle" ∧ yX0_become.cls ≠ "java/lang/invoke/VarHandle" ∧ (parseMethodDescriptor yX0_become.desc).map (fun d => d.parameters.length) = some 1) := ⟨t_2 (i := 68) rfl rfl, t_2 (i := 69) rfl rfl, t_1 (i := 5) rfl rfl, t_2 (i := 70) rfl rfl, by decide +kernel⟩
theorem mv_X0_putAtBottom : Cond.instanceMethod yX0_putAtBottom ∈ gU ∧ Cond.selects RX0 yX0_putAtBottom yX0_putAtBottom ∈ gU ∧ Cond.initialized RX0 ∈ gU ∧ Cond.code yX0_putAtBottom cX0_putAtBottom 2 (none) ∈ gU ∧ (yX0_putAtBottom.cls = RX0 ∧ yX0_putAtBottom.cls ≠ "java/lang/invoke/MethodHandle" ∧ yX0_putAtBottom.cls ≠ "java/lang/invoke/VarHandle" ∧ (parseMethodDescriptor yX0_putAtBottom.desc).map (fun d => d.parameters.length) = some 1) := ⟨t_2 (i := 49) rfl rfl, t_2 (i := 50) rfl rfl, t_1 (i := 5) rfl rfl, t_2 (i := 51) rfl rfl, by decide +kernel⟩
theorem mv_X0_putOnTop : Cond.instanceMethod yX0_putOnTop ∈ gU ∧ Cond.selects RX0 yX0_putOnTop yX0_putOnTop ∈ gU ∧ Cond.initialized RX0 ∈ gU ∧ Cond.code yX0_putOnTop cX0_putOnTop 2 (none) ∈ gU ∧ (yX0_putOnTop.cls = RX0 ∧ yX0_putOnTop.cls ≠ "java/lang/invoke/MethodHandle" ∧ yX0_putOnTop.cls ≠ "java/lang/invoke/VarHandle" ∧ (parseMethodDescriptor yX0_putOnTop.desc).map (fun d => d.parameters.length) = some 1) := ⟨t_3 (i := 42) rfl rfl, t_3 (i := 43) rfl rfl, t_1 (i := 5) rfl rfl, t_3 (i := 44) rfl rfl, by decide +kernel⟩
theorem mv_X0_placeOf : Cond.instanceMethod yX0_placeOf ∈ gU ∧ Cond.selects RX0 yX0_placeOf yX0_placeOf ∈ gU ∧ Cond.initialized RX0 ∈ gU ∧ Cond.code yX0_placeOf cX0_placeOf 3 (some .int) ∈ gU ∧ (yX0_placeOf.cls = RX0 ∧ yX0_placeOf.cls ≠ "java/lang/invoke/MethodHandle" ∧ yX0_placeOf.cls ≠ "java/lang/invoke/VarHandle" ∧ (parseMethodDescriptor yX0_placeOf.desc).map (fun d => d.parameters.length) = some 1) := ⟨t_2 (i := 91) rfl rfl, t_2 (i := 92) rfl rfl, t_1 (i := 5) rfl rfl, t_2 (i := 93) rfl rfl, by decide +kernel⟩
theorem mv_X0_takeOut : Cond.instanceMethod yX0_takeOut ∈ gU ∧ Cond.selects RX0 yX0_takeOut yX0_takeOut ∈ gU ∧ Cond.initialized RX0 ∈ gU ∧ Cond.code yX0_takeOut cX0_takeOut 3 (none) ∈ gU ∧ (yX0_takeOut.cls = RX0 ∧ yX0_takeOut.cls ≠ "java/lang/invoke/MethodHandle" ∧ yX0_takeOut.cls ≠ "java/lang/invoke/VarHandle" ∧ (parseMethodDescriptor yX0_takeOut.desc).map (fun d => d.parameters.length) = some 1) := ⟨t_2 (i := 95) rfl rfl, t_2 (i := 96) rfl rfl, t_1 (i := 5) rfl rfl, t_2 (i := 97) rfl rfl, by decide +kernel⟩
theorem mi_X1_init : Cond.instanceMethod yX1_init ∈ gU ∧ Cond.initialized RX1 ∈ gU ∧ Cond.code yX1_init cX1_init 3 (none) ∈ gU := ⟨t_1 (i := 127) rfl rfl, t_1 (i := 6) rfl rfl, t_1 (i := 128) rfl rfl⟩
theorem mv_X1_begin : Cond.instanceMethod yX1_begin ∈ gU ∧ Cond.selects RX1 yX1_begin yX1_begin ∈ gU ∧ Cond.initialized RX1 ∈ gU ∧ Cond.code yX1_begin cX1_begin 1 (none) ∈ gU ∧ (yX1_begin.cls = RX1 ∧ yX1_begin.cls ≠ "java/lang/invoke/MethodHandle" ∧ yX1_begin.cls ≠ "java/lang/invoke/VarHandle" ∧ (parseMethodDescriptor yX1_begin.desc).map (fun d => d.parameters.length) = some 0) := ⟨t_2 (i := 61) rfl rfl, t_2 (i := 62) rfl rfl, t_1 (i := 6) rfl rfl, t_2 (i := 63) rfl rfl, by decide +kernel⟩
theorem mv_X1_go : Cond.instanceMethod yX1_go ∈ gU ∧ Cond.selects RX1 yX1_go yX1_go ∈ gU ∧ Cond.initialized RX1 ∈ gU ∧ Cond.code yX1_go cX1_go 6 (none) ∈ gU ∧ (yX1_go.cls = RX1 ∧ yX1_go.cls ≠ "java/lang/invoke/MethodHandle" ∧ yX1_go.cls ≠ "java/lang/invoke/VarHandle" ∧ (parseMethodDescriptor yX1_go.desc).map (fun d => d.parameters.length) = some 0) := ⟨t_2 (i := 73) rfl rfl, t_2 (i := 74) rfl rfl, t_1 (i := 6) rfl rfl, t_2 (i := 75) rfl rfl, by decide +kernel⟩
theorem mv_X1_leaveAt : Cond.instanceMethod yX1_leaveAt ∈ gU ∧ Cond.selects RX1 yX1_leaveAt yX1_leaveAt ∈ gU ∧ Cond.initialized RX1 ∈ gU ∧ Cond.code yX1_leaveAt cX1_leaveAt 5 (some .boolean) ∈ gU ∧ (yX1_leaveAt.cls = RX1 ∧ yX1_leaveAt.cls ≠ "java/lang/invoke/MethodHandle" ∧ yX1_leaveAt.cls ≠ "java/lang/invoke/VarHandle" ∧ (parseMethodDescriptor yX1_leaveAt.desc).map (fun d => d.parameters.length) = some 1) := ⟨t_2 (i := 78) rfl rfl, t_s (i := 2) rfl rfl, t_1 (i := 6) rfl rfl, t_2 (i := 79) rfl rfl, by decide +kernel⟩
theorem mv_X1_changeAt : Cond.instanceMethod yX1_changeAt ∈ gU ∧ Cond.selects RX1 yX1_changeAt yX1_changeAt ∈ gU ∧ Cond.initialized RX1 ∈ gU ∧ Cond.code yX1_changeAt cX1_changeAt 5 (none) ∈ gU ∧ (yX1_changeAt.cls = RX1 ∧ yX1_changeAt.cls ≠ "java/lang/invoke/MethodHandle" ∧ yX1_changeAt.cls ≠ "java/lang/invoke/VarHandle" ∧ (parseMethodDescriptor yX1_changeAt.desc).map (fun d => d.parameters.length) = some 2) := ⟨t_2 (i := 83) rfl rfl, t_s (i := 3) rfl rfl, t_1 (i := 6) rfl rfl, t_2 (i := 84) rfl rfl, by decide +kernel⟩
theorem mv_X1_takeWhole : Cond.instanceMethod yX1_takeWhole ∈ gU ∧ Cond.selects RX1 yX1_takeWhole yX1_takeWhole ∈ gU ∧ Cond.initialized RX1 ∈ gU ∧ Cond.code yX1_takeWhole cX1_takeWhole 3 (some .boolean) ∈ gU ∧ (yX1_takeWhole.cls = RX1 ∧ yX1_takeWhole.cls ≠ "java/lang/invoke/MethodHandle" ∧ yX1_takeWhole.cls ≠ "java/lang/invoke/VarHandle" ∧ (parseMethodDescriptor yX1_takeWhole.desc).map (fun d => d.parameters.length) = some 1) := ⟨t_2 (i := 88) rfl rfl, t_s (i := 4) rfl rfl, t_1 (i := 6) rfl rfl, t_2 (i := 89) rfl rfl, by decide +kernel⟩
theorem mv_X1_takeTorn : Cond.instanceMethod yX1_takeTorn ∈ gU ∧ Cond.selects RX1 yX1_takeTorn yX1_takeTorn ∈ gU ∧ Cond.initialized RX1 ∈ gU ∧ Cond.code yX1_takeTorn cX1_takeTorn 5 (some .boolean) ∈ gU ∧ (yX1_takeTorn.cls = RX1 ∧ yX1_takeTorn.cls ≠ "java/lang/invoke/MethodHandle" ∧ yX1_takeTorn.cls ≠ "java/lang/invoke/VarHandle" ∧ (parseMethodDescriptor yX1_takeTorn.desc).map (fun d => d.parameters.length) = some 2) := ⟨t_2 (i := 100) rfl rfl, t_s (i := 5) rfl rfl, t_1 (i := 6) rfl rfl, t_2 (i := 101) rfl rfl, by decide +kernel⟩
theorem mv_X1_keep : Cond.instanceMethod yX1_keep ∈ gU ∧ Cond.selects RX1 yX1_keep yX1_keep ∈ gU ∧ Cond.initialized RX1 ∈ gU ∧ Cond.code yX1_keep cX1_keep 3 (none) ∈ gU ∧ (yX1_keep.cls = RX1 ∧ yX1_keep.cls ≠ "java/lang/invoke/MethodHandle" ∧ yX1_keep.cls ≠ "java/lang/invoke/VarHandle" ∧ (parseMethodDescriptor yX1_keep.desc).map (fun d => d.parameters.length) = some 1) := ⟨t_2 (i := 104) rfl rfl, t_s (i := 6) rfl rfl, t_1 (i := 6) rfl rfl, t_2 (i := 105) rfl rfl, by decide +kernel⟩
theorem mv_X1_hasOn : Cond.instanceMethod yX1_hasOn ∈ gU ∧ Cond.selects RX1 yX1_hasOn yX1_hasOn ∈ gU ∧ Cond.initialized RX1 ∈ gU ∧ Cond.code yX1_hasOn cX1_hasOn 3 (some .int) ∈ gU ∧ (yX1_hasOn.cls = RX1 ∧ yX1_hasOn.cls ≠ "java/lang/invoke/MethodHandle" ∧ yX1_hasOn.cls ≠ "java/lang/invoke/VarHandle" ∧ (parseMethodDescriptor yX1_hasOn.desc).map (fun d => d.parameters.length) = some 2) := ⟨t_2 (i := 196) rfl rfl, t_2 (i := 197) rfl rfl, t_1 (i := 6) rfl rfl, t_2 (i := 198) rfl rfl, by decide +kernel⟩
theorem mv_X1_tornOn : Cond.instanceMethod yX1_tornOn ∈ gU ∧ Cond.selects RX1 yX1_tornOn yX1_tornOn ∈ gU ∧ Cond.initialized RX1 ∈ gU ∧ Cond.code yX1_tornOn cX1_tornOn 2 (some .int) ∈ gU ∧ (yX1_tornOn.cls = RX1 ∧ yX1_tornOn.cls ≠ "java/lang/invoke/MethodHandle" ∧ yX1_tornOn.cls ≠ "java/lang/invoke/VarHandle" ∧ (parseMethodDescriptor yX1_tornOn.desc).map (fun d => d.parameters.length) = some 1) := ⟨t_2 (i := 207) rfl rfl, t_2 (i := 208) rfl rfl, t_1 (i := 6) rfl rfl, t_2 (i := 209) rfl rfl, by decide +kernel⟩
theorem mv_X1_servedOn : Cond.instanceMethod yX1_servedOn ∈ gU ∧ Cond.selects RX1 yX1_servedOn yX1_servedOn ∈ gU ∧ Cond.initialized RX1 ∈ gU ∧ Cond.code yX1_servedOn cX1_servedOn 2 (some .int) ∈ gU ∧ (yX1_servedOn.cls = RX1 ∧ yX1_servedOn.cls ≠ "java/lang/invoke/MethodHandle" ∧ yX1_servedOn.cls ≠ "java/lang/invoke/VarHandle" ∧ (parseMethodDescriptor yX1_servedOn.desc).map (fun d => d.parameters.length) = some 1) := ⟨t_2 (i := 223) rfl rfl, t_2 (i := 224) rfl rfl, t_1 (i := 6) rfl rfl, t_2 (i := 225) rfl rfl, by decide +kernel⟩
theorem mv_X1_bagOn : Cond.instanceMethod yX1_bagOn ∈ gU ∧ Cond.selects RX1 yX1_bagOn yX1_bagOn ∈ gU ∧ Cond.initialized RX1 ∈ gU ∧ Cond.code yX1_bagOn cX1_bagOn 2 (some (.object "AfternoonChange$Bag")) ∈ gU ∧ (yX1_bagOn.cls = RX1 ∧ yX1_bagOn.cls ≠ "java/lang/invoke/MethodHandle" ∧ yX1_bagOn.cls ≠ "java/lang/invoke/VarHandle" ∧ (parseMethodDescriptor yX1_bagOn.desc).map (fun d => d.parameters.length) = some 1) := ⟨t_2 (i := 215) rfl rfl, t_2 (i := 216) rfl rfl, t_1 (i := 6) rfl rfl, t_2 (i := 217) rfl rfl, by decide +kernel⟩
theorem mv_X1_servedAtLast : Cond.instanceMethod yX1_servedAtLast ∈ gU ∧ Cond.selects RX1 yX1_servedAtLast yX1_servedAtLast ∈ gU ∧ Cond.initialized RX1 ∈ gU ∧ Cond.code yX1_servedAtLast cX1_servedAtLast 1 (some .int) ∈ gU ∧ (yX1_servedAtLast.cls = RX1 ∧ yX1_servedAtLast.cls ≠ "java/lang/invoke/MethodHandle" ∧ yX1_servedAtLast.cls ≠ "java/lang/invoke/VarHandle" ∧ (parseMethodDescriptor yX1_servedAtLast.desc).map (fun d => d.parameters.length) = some 0) := ⟨t_3 (i := 33) rfl rfl, t_3 (i := 34) rfl rfl, t_1 (i := 6) rfl rfl, t_3 (i := 35) rfl rfl, by decide +kernel⟩
theorem mi_X2_init : Cond.instanceMethod yX2_init ∈ gU ∧ Cond.initialized RX2 ∈ gU ∧ Cond.code yX2_init cX2_init 1 (none) ∈ gU := ⟨t_1 (i := 237) rfl rfl, t_1 (i := 9) rfl rfl, t_1 (i := 238) rfl rfl⟩
theorem mv_X2_isLost : Cond.instanceMethod yX2_isLost ∈ gU ∧ Cond.selects RX2 yX2_isLost yX2_isLost ∈ gU ∧ Cond.initialized RX2 ∈ gU ∧ Cond.code yX2_isLost cX2_isLost 1 (some .boolean) ∈ gU ∧ (yX2_isLost.cls = RX2 ∧ yX2_isLost.cls ≠ "java/lang/invoke/MethodHandle" ∧ yX2_isLost.cls ≠ "java/lang/invoke/VarHandle" ∧ (parseMethodDescriptor yX2_isLost.desc).map (fun d => d.parameters.length) = some 0) := ⟨t_3 (i := 71) rfl rfl, t_3 (i := 72) rfl rfl, t_1 (i := 9) rfl rfl, t_3 (i := 73) rfl rfl, by decide +kernel⟩
theorem mv_X2_startAnew : Cond.instanceMethod yX2_startAnew ∈ gU ∧ Cond.selects RX2 yX2_startAnew yX2_startAnew ∈ gU ∧ Cond.initialized RX2 ∈ gU ∧ Cond.code yX2_startAnew cX2_startAnew 3 (none) ∈ gU ∧ (yX2_startAnew.cls = RX2 ∧ yX2_startAnew.cls ≠ "java/lang/invoke/MethodHandle" ∧ yX2_startAnew.cls ≠ "java/lang/invoke/VarHandle" ∧ (parseMethodDescriptor yX2_startAnew.desc).map (fun d => d.parameters.length) = some 2) := ⟨t_3 (i := 129) rfl rfl, t_3 (i := 130) rfl rfl, t_1 (i := 9) rfl rfl, t_3 (i := 131) rfl rfl, by decide +kernel⟩
theorem mv_X2_giveUp : Cond.instanceMethod yX2_giveUp ∈ gU ∧ Cond.selects RX2 yX2_giveUp yX2_giveUp ∈ gU ∧ Cond.initialized RX2 ∈ gU ∧ Cond.code yX2_giveUp cX2_giveUp 1 (none) ∈ gU ∧ (yX2_giveUp.cls = RX2 ∧ yX2_giveUp.cls ≠ "java/lang/invoke/MethodHandle" ∧ yX2_giveUp.cls ≠ "java/lang/invoke/VarHandle" ∧ (parseMethodDescriptor yX2_giveUp.desc).map (fun d => d.parameters.length) = some 0) := ⟨t_3 (i := 138) rfl rfl, t_3 (i := 139) rfl rfl, t_1 (i := 9) rfl rfl, t_3 (i := 140) rfl rfl, by decide +kernel⟩
theorem mv_X2_hasItems : Cond.instanceMethod yX2_hasItems ∈ gU ∧ Cond.selects RX2 yX2_hasItems yX2_hasItems ∈ gU ∧ Cond.initialized RX2 ∈ gU ∧ Cond.code yX2_hasItems cX2_hasItems 3 (some .boolean) ∈ gU ∧ (yX2_hasItems.cls = RX2 ∧ yX2_hasItems.cls ≠ "java/lang/invoke/MethodHandle" ∧ yX2_hasItems.cls ≠ "java/lang/invoke/VarHandle" ∧ (parseMethodDescriptor yX2_hasItems.desc).map (fun d => d.parameters.length) = some 2) := ⟨t_3 (i := 150) rfl rfl, t_3 (i := 151) rfl rfl, t_1 (i := 9) rfl rfl, t_3 (i := 152) rfl rfl, by decide +kernel⟩
theorem mv_X2_put : Cond.instanceMethod yX2_put ∈ gU ∧ Cond.selects RX2 yX2_put yX2_put ∈ gU ∧ Cond.initialized RX2 ∈ gU ∧ Cond.code yX2_put cX2_put 3 (none) ∈ gU ∧ (yX2_put.cls = RX2 ∧ yX2_put.cls ≠ "java/lang/invoke/MethodHandle" ∧ yX2_put.cls ≠ "java/lang/invoke/VarHandle" ∧ (parseMethodDescriptor yX2_put.desc).map (fun d => d.parameters.length) = some 2) := ⟨t_3 (i := 154) rfl rfl, t_3 (i := 155) rfl rfl, t_1 (i := 9) rfl rfl, t_3 (i := 156) rfl rfl, by decide +kernel⟩
theorem mi_X3_init : Cond.instanceMethod yX3_init ∈ gU ∧ Cond.initialized RX3 ∈ gU ∧ Cond.code yX3_init cX3_init 1 (none) ∈ gU := ⟨t_1 (i := 216) rfl rfl, t_1 (i := 8) rfl rfl, t_1 (i := 217) rfl rfl⟩
theorem ms_X3_mayBe : Cond.static yX3_mayBe ∈ gU ∧ Cond.initialized yX3_mayBe.cls ∈ gU ∧ Cond.code yX3_mayBe cX3_mayBe 3 (some .boolean) ∈ gU ∧ (yX3_mayBe.cls ≠ "java/lang/invoke/MethodHandle" ∧ yX3_mayBe.cls ≠ "java/lang/invoke/VarHandle" ∧ (parseMethodDescriptor yX3_mayBe.desc).map (fun d => d.parameters.length) = some 3) := ⟨t_3 (i := 50) rfl rfl, t_1 (i := 8) rfl rfl, t_3 (i := 51) rfl rfl, by decide +kernel⟩
theorem mv_X3_isFull : Cond.instanceMethod yX3_isFull ∈ gU ∧ Cond.selects RX3 yX3_isFull yX3_isFull ∈ gU ∧ Cond.initialized RX3 ∈ gU ∧ Cond.code yX3_isFull cX3_isFull 1 (some .boolean) ∈ gU ∧ (yX3_isFull.cls = RX3 ∧ yX3_isFull.cls ≠ "java/lang/invoke/MethodHandle" ∧ yX3_isFull.cls ≠ "java/lang/invoke/VarHandle" ∧ (parseMethodDescriptor yX3_isFull.desc).map (fun d => d.parameters.length) = some 0) := ⟨t_3 (i := 54) rfl rfl, t_3 (i := 55) rfl rfl, t_1 (i := 8) rfl rfl, t_3 (i := 56) rfl rfl, by decide +kernel⟩
theorem mv_X3_append : Cond.instanceMethod yX3_append ∈ gU ∧ Cond.selects RX3 yX3_append yX3_append ∈ gU ∧ Cond.initialized RX3 ∈ gU ∧ Cond.code yX3_append cX3_append 4 (none) ∈ gU ∧ (yX3_append.cls = RX3 ∧ yX3_append.cls ≠ "java/lang/invoke/MethodHandle" ∧ yX3_append.cls ≠ "java/lang/invoke/VarHandle" ∧ (parseMethodDescriptor yX3_append.desc).map (fun d => d.parameters.length) = some 3) := ⟨t_3 (i := 58) rfl rfl, t_3 (i := 59) rfl rfl, t_1 (i := 8) rfl rfl, t_3 (i := 60) rfl rfl, by decide +kernel⟩
theorem mv_X3_comeOutIn : Cond.instanceMethod yX3_comeOutIn ∈ gU ∧ Cond.selects RX3 yX3_comeOutIn yX3_comeOutIn ∈ gU ∧ Cond.initialized RX3 ∈ gU ∧ Cond.code yX3_comeOutIn cX3_comeOutIn 5 (some .boolean) ∈ gU ∧ (yX3_comeOutIn.cls = RX3 ∧ yX3_comeOutIn.cls ≠ "java/lang/invoke/MethodHandle" ∧ yX3_comeOutIn.cls ≠ "java/lang/invoke/VarHandle" ∧ (parseMethodDescriptor yX3_comeOutIn.desc).map (fun d => d.parameters.length) = some 2) := ⟨t_3 (i := 83) rfl rfl, t_3 (i := 84) rfl rfl, t_1 (i := 8) rfl rfl, t_3 (i := 85) rfl rfl, by decide +kernel⟩
theorem mi_X4_init : Cond.instanceMethod yX4_init ∈ gU ∧ Cond.initialized RX4 ∈ gU ∧ Cond.code yX4_init cX4_init 1 (none) ∈ gU := ⟨t_1 (i := 196) rfl rfl, t_1 (i := 7) rfl rfl, t_1 (i := 197) rfl rfl⟩
theorem mv_X4_startAnew : Cond.instanceMethod yX4_startAnew ∈ gU ∧ Cond.selects RX4 yX4_startAnew yX4_startAnew ∈ gU ∧ Cond.initialized RX4 ∈ gU ∧ Cond.code yX4_startAnew cX4_startAnew 4 (none) ∈ gU ∧ (yX4_startAnew.cls = RX4 ∧ yX4_startAnew.cls ≠ "java/lang/invoke/MethodHandle" ∧ yX4_startAnew.cls ≠ "java/lang/invoke/VarHandle" ∧ (parseMethodDescriptor yX4_startAnew.desc).map (fun d => d.parameters.length) = some 1) := ⟨t_2 (i := 53) rfl rfl, t_2 (i := 54) rfl rfl, t_1 (i := 7) rfl rfl, t_2 (i := 55) rfl rfl, by decide +kernel⟩
theorem mv_X4_servedBy : Cond.instanceMethod yX4_servedBy ∈ gU ∧ Cond.selects RX4 yX4_servedBy yX4_servedBy ∈ gU ∧ Cond.initialized RX4 ∈ gU ∧ Cond.code yX4_servedBy cX4_servedBy 6 (some .int) ∈ gU ∧ (yX4_servedBy.cls = RX4 ∧ yX4_servedBy.cls ≠ "java/lang/invoke/MethodHandle" ∧ yX4_servedBy.cls ≠ "java/lang/invoke/VarHandle" ∧ (parseMethodDescriptor yX4_servedBy.desc).map (fun d => d.parameters.length) = some 3) := ⟨t_3 (i := 17) rfl rfl, t_3 (i := 18) rfl rfl, t_1 (i := 7) rfl rfl, t_3 (i := 19) rfl rfl, by decide +kernel⟩
theorem mi_X5_init : Cond.instanceMethod yX5_init ∈ gU ∧ Cond.initialized RX5 ∈ gU ∧ Cond.code yX5_init cX5_init 2 (none) ∈ gU := ⟨t_1 (i := 26) rfl rfl, t_1 (i := 2) rfl rfl, t_1 (i := 27) rfl rfl⟩
theorem mv_X5_isFull : Cond.instanceMethod yX5_isFull ∈ gU ∧ Cond.selects RX5 yX5_isFull yX5_isFull ∈ gU ∧ Cond.initialized RX5 ∈ gU ∧ Cond.code yX5_isFull cX5_isFull 1 (some .boolean) ∈ gU ∧ (yX5_isFull.cls = RX5 ∧ yX5_isFull.cls ≠ "java/lang/invoke/MethodHandle" ∧ yX5_isFull.cls ≠ "java/lang/invoke/VarHandle" ∧ (parseMethodDescriptor yX5_isFull.desc).map (fun d => d.parameters.length) = some 0) := ⟨t_2 (i := 145) rfl rfl, t_2 (i := 146) rfl rfl, t_1 (i := 2) rfl rfl, t_2 (i := 147) rfl rfl, by decide +kernel⟩
theorem mv_X5_append : Cond.instanceMethod yX5_append ∈ gU ∧ Cond.selects RX5 yX5_append yX5_append ∈ gU ∧ Cond.initialized RX5 ∈ gU ∧ Cond.code yX5_append cX5_append 2 (none) ∈ gU ∧ (yX5_append.cls = RX5 ∧ yX5_append.cls ≠ "java/lang/invoke/MethodHandle" ∧ yX5_append.cls ≠ "java/lang/invoke/VarHandle" ∧ (parseMethodDescriptor yX5_append.desc).map (fun d => d.parameters.length) = some 1) := ⟨t_2 (i := 149) rfl rfl, t_2 (i := 150) rfl rfl, t_1 (i := 2) rfl rfl, t_2 (i := 151) rfl rfl, by decide +kernel⟩
theorem mv_X5_faultAsRiders : Cond.instanceMethod yX5_faultAsRiders ∈ gU ∧ Cond.selects RX5 yX5_faultAsRiders yX5_faultAsRiders ∈ gU ∧ Cond.initialized RX5 ∈ gU ∧ Cond.code yX5_faultAsRiders cX5_faultAsRiders 2 (some .int) ∈ gU ∧ (yX5_faultAsRiders.cls = RX5 ∧ yX5_faultAsRiders.cls ≠ "java/lang/invoke/MethodHandle" ∧ yX5_faultAsRiders.cls ≠ "java/lang/invoke/VarHandle" ∧ (parseMethodDescriptor yX5_faultAsRiders.desc).map (fun d => d.parameters.length) = some 0) := ⟨t_2 (i := 26) rfl rfl, t_2 (i := 27) rfl rfl, t_1 (i := 2) rfl rfl, t_2 (i := 28) rfl rfl, by decide +kernel⟩
theorem mv_X5_faultAsBag : Cond.instanceMethod yX5_faultAsBag ∈ gU ∧ Cond.selects RX5 yX5_faultAsBag yX5_faultAsBag ∈ gU ∧ Cond.initialized RX5 ∈ gU ∧ Cond.code yX5_faultAsBag cX5_faultAsBag 2 (some .int) ∈ gU ∧ (yX5_faultAsBag.cls = RX5 ∧ yX5_faultAsBag.cls ≠ "java/lang/invoke/MethodHandle" ∧ yX5_faultAsBag.cls ≠ "java/lang/invoke/VarHandle" ∧ (parseMethodDescriptor yX5_faultAsBag.desc).map (fun d => d.parameters.length) = some 0) := ⟨t_2 (i := 41) rfl rfl, t_2 (i := 42) rfl rfl, t_1 (i := 2) rfl rfl, t_2 (i := 43) rfl rfl, by decide +kernel⟩
theorem ms_X5_fitsRider : Cond.static yX5_fitsRider ∈ gU ∧ Cond.initialized yX5_fitsRider.cls ∈ gU ∧ Cond.code yX5_fitsRider cX5_fitsRider 2 (some .boolean) ∈ gU ∧ (yX5_fitsRider.cls ≠ "java/lang/invoke/MethodHandle" ∧ yX5_fitsRider.cls ≠ "java/lang/invoke/VarHandle" ∧ (parseMethodDescriptor yX5_fitsRider.desc).map (fun d => d.parameters.length) = some 2) := ⟨t_2 (i := 30) rfl rfl, t_1 (i := 2) rfl rfl, t_2 (i := 31) rfl rfl, by decide +kernel⟩
theorem ms_X5_kindOf : Cond.static yX5_kindOf ∈ gU ∧ Cond.initialized yX5_kindOf.cls ∈ gU ∧ Cond.code yX5_kindOf cX5_kindOf 1 (some .int) ∈ gU ∧ (yX5_kindOf.cls ≠ "java/lang/invoke/MethodHandle" ∧ yX5_kindOf.cls ≠ "java/lang/invoke/VarHandle" ∧ (parseMethodDescriptor yX5_kindOf.desc).map (fun d => d.parameters.length) = some 1) := ⟨t_2 (i := 45) rfl rfl, t_1 (i := 2) rfl rfl, t_2 (i := 46) rfl rfl, by decide +kernel⟩
theorem mi_X6_init : Cond.instanceMethod yX6_init ∈ gU ∧ Cond.initialized RX6 ∈ gU ∧ Cond.code yX6_init cX6_init 1 (none) ∈ gU := ⟨t_1 (i := 46) rfl rfl, t_1 (i := 4) rfl rfl, t_1 (i := 47) rfl rfl⟩
theorem mv_X6_readRiders : Cond.instanceMethod yX6_readRiders ∈ gU ∧ Cond.selects RX6 yX6_readRiders yX6_readRiders ∈ gU ∧ Cond.initialized RX6 ∈ gU ∧ Cond.code yX6_readRiders cX6_readRiders 3 (none) ∈ gU ∧ (yX6_readRiders.cls = RX6 ∧ yX6_readRiders.cls ≠ "java/lang/invoke/MethodHandle" ∧ yX6_readRiders.cls ≠ "java/lang/invoke/VarHandle" ∧ (parseMethodDescriptor yX6_readRiders.desc).map (fun d => d.parameters.length) = some 1) := ⟨t_2 (i := 19) rfl rfl, t_2 (i := 20) rfl rfl, t_1 (i := 4) rfl rfl, t_2 (i := 21) rfl rfl, by decide +kernel⟩
theorem mv_X6_placeOnBoard : Cond.instanceMethod yX6_placeOnBoard ∈ gU ∧ Cond.selects RX6 yX6_placeOnBoard yX6_placeOnBoard ∈ gU ∧ Cond.initialized RX6 ∈ gU ∧ Cond.code yX6_placeOnBoard cX6_placeOnBoard 3 (none) ∈ gU ∧ (yX6_placeOnBoard.cls = RX6 ∧ yX6_placeOnBoard.cls ≠ "java/lang/invoke/MethodHandle" ∧ yX6_placeOnBoard.cls ≠ "java/lang/invoke/VarHandle" ∧ (parseMethodDescriptor yX6_placeOnBoard.desc).map (fun d => d.parameters.length) = some 1) := ⟨t_2 (i := 34) rfl rfl, t_s (i := 1) rfl rfl, t_1 (i := 4) rfl rfl, t_2 (i := 35) rfl rfl, by decide +kernel⟩
theorem mv_X6_readBag : Cond.instanceMethod yX6_readBag ∈ gU ∧ Cond.selects RX6 yX6_readBag yX6_readBag ∈ gU ∧ Cond.initialized RX6 ∈ gU ∧ Cond.code yX6_readBag cX6_readBag 4 (none) ∈ gU ∧ (yX6_readBag.cls = RX6 ∧ yX6_readBag.cls ≠ "java/lang/invoke/MethodHandle" ∧ yX6_readBag.cls ≠ "java/lang/invoke/VarHandle" ∧ (parseMethodDescriptor yX6_readBag.desc).map (fun d => d.parameters.length) = some 1) := ⟨t_2 (i := 37) rfl rfl, t_2 (i := 38) rfl rfl, t_1 (i := 4) rfl rfl, t_2 (i := 39) rfl rfl, by decide +kernel⟩
theorem mv_X6_mayChange : Cond.instanceMethod yX6_mayChange ∈ gU ∧ Cond.selects RX6 yX6_mayChange yX6_mayChange ∈ gU ∧ Cond.initialized RX6 ∈ gU ∧ Cond.code yX6_mayChange cX6_mayChange 5 (some .boolean) ∈ gU ∧ (yX6_mayChange.cls = RX6 ∧ yX6_mayChange.cls ≠ "java/lang/invoke/MethodHandle" ∧ yX6_mayChange.cls ≠ "java/lang/invoke/VarHandle" ∧ (parseMethodDescriptor yX6_mayChange.desc).map (fun d => d.parameters.length) = some 3) := ⟨t_2 (i := 57) rfl rfl, t_2 (i := 58) rfl rfl, t_1 (i := 4) rfl rfl, t_2 (i := 59) rfl rfl, by decide +kernel⟩
theorem mv_X6_isRing : Cond.instanceMethod yX6_isRing ∈ gU ∧ Cond.selects RX6 yX6_isRing yX6_isRing ∈ gU ∧ Cond.initialized RX6 ∈ gU ∧ Cond.code yX6_isRing cX6_isRing 4 (some .boolean) ∈ gU ∧ (yX6_isRing.cls = RX6 ∧ yX6_isRing.cls ≠ "java/lang/invoke/MethodHandle" ∧ yX6_isRing.cls ≠ "java/lang/invoke/VarHandle" ∧ (parseMethodDescriptor yX6_isRing.desc).map (fun d => d.parameters.length) = some 3) := ⟨t_3 (i := 3) rfl rfl, t_3 (i := 4) rfl rfl, t_1 (i := 4) rfl rfl, t_3 (i := 5) rfl rfl, by decide +kernel⟩
theorem mi_X7_init : Cond.instanceMethod yX7_init ∈ gU ∧ Cond.initialized RX7 ∈ gU ∧ Cond.code yX7_init cX7_init 1 (none) ∈ gU := ⟨t_1 (i := 17) rfl rfl, t_1 (i := 1) rfl rfl, t_1 (i := 18) rfl rfl⟩
theorem mv_X7_type : Cond.instanceMethod yX7_type ∈ gU ∧ Cond.selects RX7 yX7_type yX7_type ∈ gU ∧ Cond.initialized RX7 ∈ gU ∧ Cond.code yX7_type cX7_type 3 (some .int) ∈ gU ∧ (yX7_type.cls = RX7 ∧ yX7_type.cls ≠ "java/lang/invoke/MethodHandle" ∧ yX7_type.cls ≠ "java/lang/invoke/VarHandle" ∧ (parseMethodDescriptor yX7_type.desc).map (fun d => d.parameters.length) = some 2) := ⟨t_2 (i := 138) rfl rfl, t_2 (i := 139) rfl rfl, t_1 (i := 1) rfl rfl, t_2 (i := 140) rfl rfl, by decide +kernel⟩
theorem mv_X7_wipe : Cond.instanceMethod yX7_wipe ∈ gU ∧ Cond.selects RX7 yX7_wipe yX7_wipe ∈ gU ∧ Cond.initialized RX7 ∈ gU ∧ Cond.code yX7_wipe cX7_wipe 3 (some .int) ∈ gU ∧ (yX7_wipe.cls = RX7 ∧ yX7_wipe.cls ≠ "java/lang/invoke/MethodHandle" ∧ yX7_wipe.cls ≠ "java/lang/invoke/VarHandle" ∧ (parseMethodDescriptor yX7_wipe.desc).map (fun d => d.parameters.length) = some 1) := ⟨t_2 (i := 154) rfl rfl, t_2 (i := 155) rfl rfl, t_1 (i := 1) rfl rfl, t_2 (i := 156) rfl rfl, by decide +kernel⟩
theorem mv_X7_undo : Cond.instanceMethod yX7_undo ∈ gU ∧ Cond.selects RX7 yX7_undo yX7_undo ∈ gU ∧ Cond.initialized RX7 ∈ gU ∧ Cond.code yX7_undo cX7_undo 2 (some .int) ∈ gU ∧ (yX7_undo.cls = RX7 ∧ yX7_undo.cls ≠ "java/lang/invoke/MethodHandle" ∧ yX7_undo.cls ≠ "java/lang/invoke/VarHandle" ∧ (parseMethodDescriptor yX7_undo.desc).map (fun d => d.parameters.length) = some 1) := ⟨t_2 (i := 158) rfl rfl, t_2 (i := 159) rfl rfl, t_1 (i := 1) rfl rfl, t_2 (i := 160) rfl rfl, by decide +kernel⟩
theorem mv_X7_fault : Cond.instanceMethod yX7_fault ∈ gU ∧ Cond.selects RX7 yX7_fault yX7_fault ∈ gU ∧ Cond.initialized RX7 ∈ gU ∧ Cond.code yX7_fault cX7_fault 2 (some .int) ∈ gU ∧ (yX7_fault.cls = RX7 ∧ yX7_fault.cls ≠ "java/lang/invoke/MethodHandle" ∧ yX7_fault.cls ≠ "java/lang/invoke/VarHandle" ∧ (parseMethodDescriptor yX7_fault.desc).map (fun d => d.parameters.length) = some 1) := ⟨t_2 (i := 162) rfl rfl, t_2 (i := 163) rfl rfl, t_1 (i := 1) rfl rfl, t_2 (i := 164) rfl rfl, by decide +kernel⟩
theorem mv_X7_rider : Cond.instanceMethod yX7_rider ∈ gU ∧ Cond.selects RX7 yX7_rider yX7_rider ∈ gU ∧ Cond.initialized RX7 ∈ gU ∧ Cond.code yX7_rider cX7_rider 3 (some .int) ∈ gU ∧ (yX7_rider.cls = RX7 ∧ yX7_rider.cls ≠ "java/lang/invoke/MethodHandle" ∧ yX7_rider.cls ≠ "java/lang/invoke/VarHandle" ∧ (parseMethodDescriptor yX7_rider.desc).map (fun d => d.parameters.length) = some 2) := ⟨t_2 (i := 168) rfl rfl, t_2 (i := 169) rfl rfl, t_1 (i := 1) rfl rfl, t_2 (i := 170) rfl rfl, by decide +kernel⟩
theorem mv_X7_worth : Cond.instanceMethod yX7_worth ∈ gU ∧ Cond.selects RX7 yX7_worth yX7_worth ∈ gU ∧ Cond.initialized RX7 ∈ gU ∧ Cond.code yX7_worth cX7_worth 4 (some .int) ∈ gU ∧ (yX7_worth.cls = RX7 ∧ yX7_worth.cls ≠ "java/lang/invoke/MethodHandle" ∧ yX7_worth.cls ≠ "java/lang/invoke/VarHandle" ∧ (parseMethodDescriptor yX7_worth.desc).map (fun d => d.parameters.length) = some 2) := ⟨t_2 (i := 172) rfl rfl, t_2 (i := 173) rfl rfl, t_1 (i := 1) rfl rfl, t_2 (i := 174) rfl rfl, by decide +kernel⟩
theorem mv_X7_set : Cond.instanceMethod yX7_set ∈ gU ∧ Cond.selects RX7 yX7_set yX7_set ∈ gU ∧ Cond.initialized RX7 ∈ gU ∧ Cond.code yX7_set cX7_set 3 (some .int) ∈ gU ∧ (yX7_set.cls = RX7 ∧ yX7_set.cls ≠ "java/lang/invoke/MethodHandle" ∧ yX7_set.cls ≠ "java/lang/invoke/VarHandle" ∧ (parseMethodDescriptor yX7_set.desc).map (fun d => d.parameters.length) = some 2) := ⟨t_2 (i := 176) rfl rfl, t_2 (i := 177) rfl rfl, t_1 (i := 1) rfl rfl, t_2 (i := 178) rfl rfl, by decide +kernel⟩
theorem mv_X7_has : Cond.instanceMethod yX7_has ∈ gU ∧ Cond.selects RX7 yX7_has yX7_has ∈ gU ∧ Cond.initialized RX7 ∈ gU ∧ Cond.code yX7_has cX7_has 3 (some .int) ∈ gU ∧ (yX7_has.cls = RX7 ∧ yX7_has.cls ≠ "java/lang/invoke/MethodHandle" ∧ yX7_has.cls ≠ "java/lang/invoke/VarHandle" ∧ (parseMethodDescriptor yX7_has.desc).map (fun d => d.parameters.length) = some 2) := ⟨t_2 (i := 192) rfl rfl, t_2 (i := 193) rfl rfl, t_1 (i := 1) rfl rfl, t_2 (i := 194) rfl rfl, by decide +kernel⟩
theorem mv_X7_torn : Cond.instanceMethod yX7_torn ∈ gU ∧ Cond.selects RX7 yX7_torn yX7_torn ∈ gU ∧ Cond.initialized RX7 ∈ gU ∧ Cond.code yX7_torn cX7_torn 3 (some .int) ∈ gU ∧ (yX7_torn.cls = RX7 ∧ yX7_torn.cls ≠ "java/lang/invoke/MethodHandle" ∧ yX7_torn.cls ≠ "java/lang/invoke/VarHandle" ∧ (parseMethodDescriptor yX7_torn.desc).map (fun d => d.parameters.length) = some 2) := ⟨t_2 (i := 203) rfl rfl, t_2 (i := 204) rfl rfl, t_1 (i := 1) rfl rfl, t_2 (i := 205) rfl rfl, by decide +kernel⟩
theorem mv_X7_bag : Cond.instanceMethod yX7_bag ∈ gU ∧ Cond.selects RX7 yX7_bag yX7_bag ∈ gU ∧ Cond.initialized RX7 ∈ gU ∧ Cond.code yX7_bag cX7_bag 4 (some .int) ∈ gU ∧ (yX7_bag.cls = RX7 ∧ yX7_bag.cls ≠ "java/lang/invoke/MethodHandle" ∧ yX7_bag.cls ≠ "java/lang/invoke/VarHandle" ∧ (parseMethodDescriptor yX7_bag.desc).map (fun d => d.parameters.length) = some 2) := ⟨t_2 (i := 211) rfl rfl, t_2 (i := 212) rfl rfl, t_1 (i := 1) rfl rfl, t_2 (i := 213) rfl rfl, by decide +kernel⟩
theorem mv_X7_gets : Cond.instanceMethod yX7_gets ∈ gU ∧ Cond.selects RX7 yX7_gets yX7_gets ∈ gU ∧ Cond.initialized RX7 ∈ gU ∧ Cond.code yX7_gets cX7_gets 3 (some .int) ∈ gU ∧ (yX7_gets.cls = RX7 ∧ yX7_gets.cls ≠ "java/lang/invoke/MethodHandle" ∧ yX7_gets.cls ≠ "java/lang/invoke/VarHandle" ∧ (parseMethodDescriptor yX7_gets.desc).map (fun d => d.parameters.length) = some 1) := ⟨t_2 (i := 219) rfl rfl, t_2 (i := 220) rfl rfl, t_1 (i := 1) rfl rfl, t_2 (i := 221) rfl rfl, by decide +kernel⟩
theorem mv_X7_first : Cond.instanceMethod yX7_first ∈ gU ∧ Cond.selects RX7 yX7_first yX7_first ∈ gU ∧ Cond.initialized RX7 ∈ gU ∧ Cond.code yX7_first cX7_first 2 (some .int) ∈ gU ∧ (yX7_first.cls = RX7 ∧ yX7_first.cls ≠ "java/lang/invoke/MethodHandle" ∧ yX7_first.cls ≠ "java/lang/invoke/VarHandle" ∧ (parseMethodDescriptor yX7_first.desc).map (fun d => d.parameters.length) = some 1) := ⟨t_2 (i := 227) rfl rfl, t_2 (i := 228) rfl rfl, t_1 (i := 1) rfl rfl, t_2 (i := 229) rfl rfl, by decide +kernel⟩
theorem mv_X7_still : Cond.instanceMethod yX7_still ∈ gU ∧ Cond.selects RX7 yX7_still yX7_still ∈ gU ∧ Cond.initialized RX7 ∈ gU ∧ Cond.code yX7_still cX7_still 1 (some .int) ∈ gU ∧ (yX7_still.cls = RX7 ∧ yX7_still.cls ≠ "java/lang/invoke/MethodHandle" ∧ yX7_still.cls ≠ "java/lang/invoke/VarHandle" ∧ (parseMethodDescriptor yX7_still.desc).map (fun d => d.parameters.length) = some 0) := ⟨t_2 (i := 231) rfl rfl, t_2 (i := 232) rfl rfl, t_1 (i := 1) rfl rfl, t_2 (i := 233) rfl rfl, by decide +kernel⟩
theorem mv_X7_served : Cond.instanceMethod yX7_served ∈ gU ∧ Cond.selects RX7 yX7_served yX7_served ∈ gU ∧ Cond.initialized RX7 ∈ gU ∧ Cond.code yX7_served cX7_served 2 (some .int) ∈ gU ∧ (yX7_served.cls = RX7 ∧ yX7_served.cls ≠ "java/lang/invoke/MethodHandle" ∧ yX7_served.cls ≠ "java/lang/invoke/VarHandle" ∧ (parseMethodDescriptor yX7_served.desc).map (fun d => d.parameters.length) = some 1) := ⟨t_2 (i := 235) rfl rfl, t_2 (i := 236) rfl rfl, t_1 (i := 1) rfl rfl, t_2 (i := 237) rfl rfl, by decide +kernel⟩
theorem mv_X7_rings : Cond.instanceMethod yX7_rings ∈ gU ∧ Cond.selects RX7 yX7_rings yX7_rings ∈ gU ∧ Cond.initialized RX7 ∈ gU ∧ Cond.code yX7_rings cX7_rings 7 (some .int) ∈ gU ∧ (yX7_rings.cls = RX7 ∧ yX7_rings.cls ≠ "java/lang/invoke/MethodHandle" ∧ yX7_rings.cls ≠ "java/lang/invoke/VarHandle" ∧ (parseMethodDescriptor yX7_rings.desc).map (fun d => d.parameters.length) = some 1) := ⟨t_2 (i := 239) rfl rfl, t_3 (i := 0) rfl rfl, t_1 (i := 1) rfl rfl, t_3 (i := 1) rfl rfl, by decide +kernel⟩
theorem mv_X7_open : Cond.instanceMethod yX7_open ∈ gU ∧ Cond.selects RX7 yX7_open yX7_open ∈ gU ∧ Cond.initialized RX7 ∈ gU ∧ Cond.code yX7_open cX7_open 5 (some .int) ∈ gU ∧ (yX7_open.cls = RX7 ∧ yX7_open.cls ≠ "java/lang/invoke/MethodHandle" ∧ yX7_open.cls ≠ "java/lang/invoke/VarHandle" ∧ (parseMethodDescriptor yX7_open.desc).map (fun d => d.parameters.length) = some 2) := ⟨t_3 (i := 7) rfl rfl, t_3 (i := 8) rfl rfl, t_1 (i := 1) rfl rfl, t_3 (i := 9) rfl rfl, by decide +kernel⟩
theorem mv_X7_least : Cond.instanceMethod yX7_least ∈ gU ∧ Cond.selects RX7 yX7_least yX7_least ∈ gU ∧ Cond.initialized RX7 ∈ gU ∧ Cond.code yX7_least cX7_least 6 (some .int) ∈ gU ∧ (yX7_least.cls = RX7 ∧ yX7_least.cls ≠ "java/lang/invoke/MethodHandle" ∧ yX7_least.cls ≠ "java/lang/invoke/VarHandle" ∧ (parseMethodDescriptor yX7_least.desc).map (fun d => d.parameters.length) = some 1) := ⟨t_3 (i := 25) rfl rfl, t_3 (i := 26) rfl rfl, t_1 (i := 1) rfl rfl, t_3 (i := 27) rfl rfl, by decide +kernel⟩
theorem mv_X7_top : Cond.instanceMethod yX7_top ∈ gU ∧ Cond.selects RX7 yX7_top yX7_top ∈ gU ∧ Cond.initialized RX7 ∈ gU ∧ Cond.code yX7_top cX7_top 6 (some .int) ∈ gU ∧ (yX7_top.cls = RX7 ∧ yX7_top.cls ≠ "java/lang/invoke/MethodHandle" ∧ yX7_top.cls ≠ "java/lang/invoke/VarHandle" ∧ (parseMethodDescriptor yX7_top.desc).map (fun d => d.parameters.length) = some 1) := ⟨t_3 (i := 38) rfl rfl, t_3 (i := 39) rfl rfl, t_1 (i := 1) rfl rfl, t_3 (i := 40) rfl rfl, by decide +kernel⟩
theorem mv_X7_seen : Cond.instanceMethod yX7_seen ∈ gU ∧ Cond.selects RX7 yX7_seen yX7_seen ∈ gU ∧ Cond.initialized RX7 ∈ gU ∧ Cond.code yX7_seen cX7_seen 4 (some .int) ∈ gU ∧ (yX7_seen.cls = RX7 ∧ yX7_seen.cls ≠ "java/lang/invoke/MethodHandle" ∧ yX7_seen.cls ≠ "java/lang/invoke/VarHandle" ∧ (parseMethodDescriptor yX7_seen.desc).map (fun d => d.parameters.length) = some 3) := ⟨t_3 (i := 46) rfl rfl, t_3 (i := 47) rfl rfl, t_1 (i := 1) rfl rfl, t_3 (i := 48) rfl rfl, by decide +kernel⟩
theorem mv_X7_forget : Cond.instanceMethod yX7_forget ∈ gU ∧ Cond.selects RX7 yX7_forget yX7_forget ∈ gU ∧ Cond.initialized RX7 ∈ gU ∧ Cond.code yX7_forget cX7_forget 2 (some .int) ∈ gU ∧ (yX7_forget.cls = RX7 ∧ yX7_forget.cls ≠ "java/lang/invoke/MethodHandle" ∧ yX7_forget.cls ≠ "java/lang/invoke/VarHandle" ∧ (parseMethodDescriptor yX7_forget.desc).map (fun d => d.parameters.length) = some 0) := ⟨t_3 (i := 63) rfl rfl, t_3 (i := 64) rfl rfl, t_1 (i := 1) rfl rfl, t_3 (i := 65) rfl rfl, by decide +kernel⟩
theorem mv_X7_read : Cond.instanceMethod yX7_read ∈ gU ∧ Cond.selects RX7 yX7_read yX7_read ∈ gU ∧ Cond.initialized RX7 ∈ gU ∧ Cond.code yX7_read cX7_read 5 (some .int) ∈ gU ∧ (yX7_read.cls = RX7 ∧ yX7_read.cls ≠ "java/lang/invoke/MethodHandle" ∧ yX7_read.cls ≠ "java/lang/invoke/VarHandle" ∧ (parseMethodDescriptor yX7_read.desc).map (fun d => d.parameters.length) = some 1) := ⟨t_3 (i := 67) rfl rfl, t_3 (i := 68) rfl rfl, t_1 (i := 1) rfl rfl, t_3 (i := 69) rfl rfl, by decide +kernel⟩
theorem mv_X7_had : Cond.instanceMethod yX7_had ∈ gU ∧ Cond.selects RX7 yX7_had yX7_had ∈ gU ∧ Cond.initialized RX7 ∈ gU ∧ Cond.code yX7_had cX7_had 4 (some .int) ∈ gU ∧ (yX7_had.cls = RX7 ∧ yX7_had.cls ≠ "java/lang/invoke/MethodHandle" ∧ yX7_had.cls ≠ "java/lang/invoke/VarHandle" ∧ (parseMethodDescriptor yX7_had.desc).map (fun d => d.parameters.length) = some 1) := ⟨t_3 (i := 79) rfl rfl, t_3 (i := 80) rfl rfl, t_1 (i := 1) rfl rfl, t_3 (i := 81) rfl rfl, by decide +kernel⟩
theorem mv_X7_was : Cond.instanceMethod yX7_was ∈ gU ∧ Cond.selects RX7 yX7_was yX7_was ∈ gU ∧ Cond.initialized RX7 ∈ gU ∧ Cond.code yX7_was cX7_was 3 (some .int) ∈ gU ∧ (yX7_was.cls = RX7 ∧ yX7_was.cls ≠ "java/lang/invoke/MethodHandle" ∧ yX7_was.cls ≠ "java/lang/invoke/VarHandle" ∧ (parseMethodDescriptor yX7_was.desc).map (fun d => d.parameters.length) = some 0) := ⟨t_3 (i := 88) rfl rfl, t_3 (i := 89) rfl rfl, t_1 (i := 1) rfl rfl, t_3 (i := 90) rfl rfl, by decide +kernel⟩
theorem mv_X7_ask : Cond.instanceMethod yX7_ask ∈ gU ∧ Cond.selects RX7 yX7_ask yX7_ask ∈ gU ∧ Cond.initialized RX7 ∈ gU ∧ Cond.code yX7_ask cX7_ask 6 (some .int) ∈ gU ∧ (yX7_ask.cls = RX7 ∧ yX7_ask.cls ≠ "java/lang/invoke/MethodHandle" ∧ yX7_ask.cls ≠ "java/lang/invoke/VarHandle" ∧ (parseMethodDescriptor yX7_ask.desc).map (fun d => d.parameters.length) = some 1) := ⟨t_3 (i := 92) rfl rfl, t_3 (i := 93) rfl rfl, t_1 (i := 1) rfl rfl, t_3 (i := 94) rfl rfl, by decide +kernel⟩
theorem mv_X7_maybe : Cond.instanceMethod yX7_maybe ∈ gU ∧ Cond.selects RX7 yX7_maybe yX7_maybe ∈ gU ∧ Cond.initialized RX7 ∈ gU ∧ Cond.code yX7_maybe cX7_maybe 11 (some .long) ∈ gU ∧ (yX7_maybe.cls = RX7 ∧ yX7_maybe.cls ≠ "java/lang/invoke/MethodHandle" ∧ yX7_maybe.cls ≠ "java/lang/invoke/VarHandle" ∧ (parseMethodDescriptor yX7_maybe.desc).map (fun d => d.parameters.length) = some 4) := ⟨t_3 (i := 109) rfl rfl, t_3 (i := 110) rfl rfl, t_1 (i := 1) rfl rfl, t_3 (i := 111) rfl rfl, by decide +kernel⟩
theorem mv_X7_depot : Cond.instanceMethod yX7_depot ∈ gU ∧ Cond.selects RX7 yX7_depot yX7_depot ∈ gU ∧ Cond.initialized RX7 ∈ gU ∧ Cond.code yX7_depot cX7_depot 6 (some .int) ∈ gU ∧ (yX7_depot.cls = RX7 ∧ yX7_depot.cls ≠ "java/lang/invoke/MethodHandle" ∧ yX7_depot.cls ≠ "java/lang/invoke/VarHandle" ∧ (parseMethodDescriptor yX7_depot.desc).map (fun d => d.parameters.length) = some 3) := ⟨t_3 (i := 119) rfl rfl, t_3 (i := 120) rfl rfl, t_1 (i := 1) rfl rfl, t_3 (i := 121) rfl rfl, by decide +kernel⟩
theorem mv_X7_sheet : Cond.instanceMethod yX7_sheet ∈ gU ∧ Cond.selects RX7 yX7_sheet yX7_sheet ∈ gU ∧ Cond.initialized RX7 ∈ gU ∧ Cond.code yX7_sheet cX7_sheet 4 (some .int) ∈ gU ∧ (yX7_sheet.cls = RX7 ∧ yX7_sheet.cls ≠ "java/lang/invoke/MethodHandle" ∧ yX7_sheet.cls ≠ "java/lang/invoke/VarHandle" ∧ (parseMethodDescriptor yX7_sheet.desc).map (fun d => d.parameters.length) = some 3) := ⟨t_3 (i := 125) rfl rfl, t_3 (i := 126) rfl rfl, t_1 (i := 1) rfl rfl, t_3 (i := 127) rfl rfl, by decide +kernel⟩
theorem mv_X7_lose : Cond.instanceMethod yX7_lose ∈ gU ∧ Cond.selects RX7 yX7_lose yX7_lose ∈ gU ∧ Cond.initialized RX7 ∈ gU ∧ Cond.code yX7_lose cX7_lose 3 (some .int) ∈ gU ∧ (yX7_lose.cls = RX7 ∧ yX7_lose.cls ≠ "java/lang/invoke/MethodHandle" ∧ yX7_lose.cls ≠ "java/lang/invoke/VarHandle" ∧ (parseMethodDescriptor yX7_lose.desc).map (fun d => d.parameters.length) = some 1) := ⟨t_3 (i := 134) rfl rfl, t_3 (i := 135) rfl rfl, t_1 (i := 1) rfl rfl, t_3 (i := 136) rfl rfl, by decide +kernel⟩
theorem mv_X7_lay : Cond.instanceMethod yX7_lay ∈ gU ∧ Cond.selects RX7 yX7_lay yX7_lay ∈ gU ∧ Cond.initialized RX7 ∈ gU ∧ Cond.code yX7_lay cX7_lay 6 (some .int) ∈ gU ∧ (yX7_lay.cls = RX7 ∧ yX7_lay.cls ≠ "java/lang/invoke/MethodHandle" ∧ yX7_lay.cls ≠ "java/lang/invoke/VarHandle" ∧ (parseMethodDescriptor yX7_lay.desc).map (fun d => d.parameters.length) = some 4) := ⟨t_3 (i := 142) rfl rfl, t_3 (i := 143) rfl rfl, t_1 (i := 1) rfl rfl, t_3 (i := 144) rfl rfl, by decide +kernel⟩
theorem mv_X7_get : Cond.instanceMethod yX7_get ∈ gU ∧ Cond.selects RX7 yX7_get yX7_get ∈ gU ∧ Cond.initialized RX7 ∈ gU ∧ Cond.code yX7_get cX7_get 4 (some .int) ∈ gU ∧ (yX7_get.cls = RX7 ∧ yX7_get.cls ≠ "java/lang/invoke/MethodHandle" ∧ yX7_get.cls ≠ "java/lang/invoke/VarHandle" ∧ (parseMethodDescriptor yX7_get.desc).map (fun d => d.parameters.length) = some 3) := ⟨t_3 (i := 158) rfl rfl, t_3 (i := 159) rfl rfl, t_1 (i := 1) rfl rfl, t_3 (i := 160) rfl rfl, by decide +kernel⟩
theorem mv_X7_copy : Cond.instanceMethod yX7_copy ∈ gU ∧ Cond.selects RX7 yX7_copy yX7_copy ∈ gU ∧ Cond.initialized RX7 ∈ gU ∧ Cond.code yX7_copy cX7_copy 6 (some .int) ∈ gU ∧ (yX7_copy.cls = RX7 ∧ yX7_copy.cls ≠ "java/lang/invoke/MethodHandle" ∧ yX7_copy.cls ≠ "java/lang/invoke/VarHandle" ∧ (parseMethodDescriptor yX7_copy.desc).map (fun d => d.parameters.length) = some 5) := ⟨t_3 (i := 163) rfl rfl, t_3 (i := 164) rfl rfl, t_1 (i := 1) rfl rfl, t_3 (i := 165) rfl rfl, by decide +kernel⟩
theorem mv_X7_write : Cond.instanceMethod yX7_write ∈ gU ∧ Cond.selects RX7 yX7_write yX7_write ∈ gU ∧ Cond.initialized RX7 ∈ gU ∧ Cond.code yX7_write cX7_write 6 (some .int) ∈ gU ∧ (yX7_write.cls = RX7 ∧ yX7_write.cls ≠ "java/lang/invoke/MethodHandle" ∧ yX7_write.cls ≠ "java/lang/invoke/VarHandle" ∧ (parseMethodDescriptor yX7_write.desc).map (fun d => d.parameters.length) = some 2) := ⟨t_3 (i := 168) rfl rfl, t_3 (i := 169) rfl rfl, t_1 (i := 1) rfl rfl, t_3 (i := 170) rfl rfl, by decide +kernel⟩
theorem mv_X7_count : Cond.instanceMethod yX7_count ∈ gU ∧ Cond.selects RX7 yX7_count yX7_count ∈ gU ∧ Cond.initialized RX7 ∈ gU ∧ Cond.code yX7_count cX7_count 2 (some .int) ∈ gU ∧ (yX7_count.cls = RX7 ∧ yX7_count.cls ≠ "java/lang/invoke/MethodHandle" ∧ yX7_count.cls ≠ "java/lang/invoke/VarHandle" ∧ (parseMethodDescriptor yX7_count.desc).map (fun d => d.parameters.length) = some 1) := ⟨t_3 (i := 173) rfl rfl, t_3 (i := 174) rfl rfl, t_1 (i := 1) rfl rfl, t_3 (i := 175) rfl rfl, by decide +kernel⟩
theorem mv_X7_digest : Cond.instanceMethod yX7_digest ∈ gU ∧ Cond.selects RX7 yX7_digest yX7_digest ∈ gU ∧ Cond.initialized RX7 ∈ gU ∧ Cond.code yX7_digest cX7_digest 5 (some .long) ∈ gU ∧ (yX7_digest.cls = RX7 ∧ yX7_digest.cls ≠ "java/lang/invoke/MethodHandle" ∧ yX7_digest.cls ≠ "java/lang/invoke/VarHandle" ∧ (parseMethodDescriptor yX7_digest.desc).map (fun d => d.parameters.length) = some 0) := ⟨t_3 (i := 177) rfl rfl, t_3 (i := 178) rfl rfl, t_1 (i := 1) rfl rfl, t_3 (i := 179) rfl rfl, by decide +kernel⟩
theorem ms_X7_isOutside : Cond.static yX7_isOutside ∈ gU ∧ Cond.initialized yX7_isOutside.cls ∈ gU ∧ Cond.code yX7_isOutside cX7_isOutside 2 (some .boolean) ∈ gU ∧ (yX7_isOutside.cls ≠ "java/lang/invoke/MethodHandle" ∧ yX7_isOutside.cls ≠ "java/lang/invoke/VarHandle" ∧ (parseMethodDescriptor yX7_isOutside.desc).map (fun d => d.parameters.length) = some 2) := ⟨t_2 (i := 142) rfl rfl, t_1 (i := 1) rfl rfl, t_2 (i := 143) rfl rfl, by decide +kernel⟩
theorem ms_X7_mix : Cond.static yX7_mix ∈ gU ∧ Cond.initialized yX7_mix.cls ∈ gU ∧ Cond.code yX7_mix cX7_mix 4 (some .long) ∈ gU ∧ (yX7_mix.cls ≠ "java/lang/invoke/MethodHandle" ∧ yX7_mix.cls ≠ "java/lang/invoke/VarHandle" ∧ (parseMethodDescriptor yX7_mix.desc).map (fun d => d.parameters.length) = some 2) := ⟨t_3 (i := 183) rfl rfl, t_1 (i := 1) rfl rfl, t_3 (i := 184) rfl rfl, by decide +kernel⟩
theorem mv_X7_tellAnew : Cond.instanceMethod yX7_tellAnew ∈ gU ∧ Cond.selects RX7 yX7_tellAnew yX7_tellAnew ∈ gU ∧ Cond.initialized RX7 ∈ gU ∧ Cond.code yX7_tellAnew cX7_tellAnew 1 (none) ∈ gU ∧ (yX7_tellAnew.cls = RX7 ∧ yX7_tellAnew.cls ≠ "java/lang/invoke/MethodHandle" ∧ yX7_tellAnew.cls ≠ "java/lang/invoke/VarHandle" ∧ (parseMethodDescriptor yX7_tellAnew.desc).map (fun d => d.parameters.length) = some 0) := ⟨t_2 (i := 16) rfl rfl, t_s (i := 0) rfl rfl, t_1 (i := 1) rfl rfl, t_2 (i := 17) rfl rfl, by decide +kernel⟩
theorem mv_X7_tellEven : Cond.instanceMethod yX7_tellEven ∈ gU ∧ Cond.selects RX7 yX7_tellEven yX7_tellEven ∈ gU ∧ Cond.initialized RX7 ∈ gU ∧ Cond.code yX7_tellEven cX7_tellEven 3 (some .int) ∈ gU ∧ (yX7_tellEven.cls = RX7 ∧ yX7_tellEven.cls ≠ "java/lang/invoke/MethodHandle" ∧ yX7_tellEven.cls ≠ "java/lang/invoke/VarHandle" ∧ (parseMethodDescriptor yX7_tellEven.desc).map (fun d => d.parameters.length) = some 1) := ⟨t_2 (i := 181) rfl rfl, t_s (i := 7) rfl rfl, t_1 (i := 1) rfl rfl, t_2 (i := 182) rfl rfl, by decide +kernel⟩
theorem mv_X7_tellChanges : Cond.instanceMethod yX7_tellChanges ∈ gU ∧ Cond.selects RX7 yX7_tellChanges yX7_tellChanges ∈ gU ∧ Cond.initialized RX7 ∈ gU ∧ Cond.code yX7_tellChanges cX7_tellChanges 3 (some .int) ∈ gU ∧ (yX7_tellChanges.cls = RX7 ∧ yX7_tellChanges.cls ≠ "java/lang/invoke/MethodHandle" ∧ yX7_tellChanges.cls ≠ "java/lang/invoke/VarHandle" ∧ (parseMethodDescriptor yX7_tellChanges.desc).map (fun d => d.parameters.length) = some 1) := ⟨t_2 (i := 185) rfl rfl, t_s (i := 8) rfl rfl, t_1 (i := 1) rfl rfl, t_2 (i := 186) rfl rfl, by decide +kernel⟩
theorem mv_X7_tellForgets : Cond.instanceMethod yX7_tellForgets ∈ gU ∧ Cond.selects RX7 yX7_tellForgets yX7_tellForgets ∈ gU ∧ Cond.initialized RX7 ∈ gU ∧ Cond.code yX7_tellForgets cX7_tellForgets 3 (some .int) ∈ gU ∧ (yX7_tellForgets.cls = RX7 ∧ yX7_tellForgets.cls ≠ "java/lang/invoke/MethodHandle" ∧ yX7_tellForgets.cls ≠ "java/lang/invoke/VarHandle" ∧ (parseMethodDescriptor yX7_tellForgets.desc).map (fun d => d.parameters.length) = some 1) := ⟨t_2 (i := 189) rfl rfl, t_s (i := 9) rfl rfl, t_1 (i := 1) rfl rfl, t_2 (i := 190) rfl rfl, by decide +kernel⟩
theorem mv_X7_rideWithEven : Cond.instanceMethod yX7_rideWithEven ∈ gU ∧ Cond.selects RX7 yX7_rideWithEven yX7_rideWithEven ∈ gU ∧ Cond.initialized RX7 ∈ gU ∧ Cond.code yX7_rideWithEven cX7_rideWithEven 2 (none) ∈ gU ∧ (yX7_rideWithEven.cls = RX7 ∧ yX7_rideWithEven.cls ≠ "java/lang/invoke/MethodHandle" ∧ yX7_rideWithEven.cls ≠ "java/lang/invoke/VarHandle" ∧ (parseMethodDescriptor yX7_rideWithEven.desc).map (fun d => d.parameters.length) = some 1) := ⟨t_3 (i := 30) rfl rfl, t_s (i := 10) rfl rfl, t_1 (i := 1) rfl rfl, t_3 (i := 31) rfl rfl, by decide +kernel⟩
theorem mv_X7_clearAlike : Cond.instanceMethod yX7_clearAlike ∈ gU ∧ Cond.selects RX7 yX7_clearAlike yX7_clearAlike ∈ gU ∧ Cond.initialized RX7 ∈ gU ∧ Cond.code yX7_clearAlike cX7_clearAlike 2 (none) ∈ gU ∧ (yX7_clearAlike.cls = RX7 ∧ yX7_clearAlike.cls ≠ "java/lang/invoke/MethodHandle" ∧ yX7_clearAlike.cls ≠ "java/lang/invoke/VarHandle" ∧ (parseMethodDescriptor yX7_clearAlike.desc).map (fun d => d.parameters.length) = some 0) := ⟨t_3 (i := 97) rfl rfl, t_s (i := 12) rfl rfl, t_1 (i := 1) rfl rfl, t_3 (i := 98) rfl rfl, by decide +kernel⟩
theorem mv_X7_countAlike : Cond.instanceMethod yX7_countAlike ∈ gU ∧ Cond.selects RX7 yX7_countAlike yX7_countAlike ∈ gU ∧ Cond.initialized RX7 ∈ gU ∧ Cond.code yX7_countAlike cX7_countAlike 4 (none) ∈ gU ∧ (yX7_countAlike.cls = RX7 ∧ yX7_countAlike.cls ≠ "java/lang/invoke/MethodHandle" ∧ yX7_countAlike.cls ≠ "java/lang/invoke/VarHandle" ∧ (parseMethodDescriptor yX7_countAlike.desc).map (fun d => d.parameters.length) = some 1) := ⟨t_3 (i := 102) rfl rfl, t_s (i := 13) rfl rfl, t_1 (i := 1) rfl rfl, t_3 (i := 103) rfl rfl, by decide +kernel⟩
theorem ms_X7_greatestOf : Cond.static yX7_greatestOf ∈ gU ∧ Cond.initialized yX7_greatestOf.cls ∈ gU ∧ Cond.code yX7_greatestOf cX7_greatestOf 6 (some .int) ∈ gU ∧ (yX7_greatestOf.cls ≠ "java/lang/invoke/MethodHandle" ∧ yX7_greatestOf.cls ≠ "java/lang/invoke/VarHandle" ∧ (parseMethodDescriptor yX7_greatestOf.desc).map (fun d => d.parameters.length) = some 1) := ⟨t_3 (i := 105) rfl rfl, t_1 (i := 1) rfl rfl, t_3 (i := 106) rfl rfl, by decide +kernel⟩
theorem mv_X7_chanceAbove : Cond.instanceMethod yX7_chanceAbove ∈ gU ∧ Cond.selects RX7 yX7_chanceAbove yX7_chanceAbove ∈ gU ∧ Cond.initialized RX7 ∈ gU ∧ Cond.code yX7_chanceAbove cX7_chanceAbove 9 (some .long) ∈ gU ∧ (yX7_chanceAbove.cls = RX7 ∧ yX7_chanceAbove.cls ≠ "java/lang/invoke/MethodHandle" ∧ yX7_chanceAbove.cls ≠ "java/lang/invoke/VarHandle" ∧ (parseMethodDescriptor yX7_chanceAbove.desc).map (fun d => d.parameters.length) = some 2) := ⟨t_3 (i := 115) rfl rfl, t_s (i := 14) rfl rfl, t_1 (i := 1) rfl rfl, t_3 (i := 116) rfl rfl, by decide +kernel⟩
theorem mv_X7_finding : Cond.instanceMethod yX7_finding ∈ gU ∧ Cond.selects RX7 yX7_finding yX7_finding ∈ gU ∧ Cond.initialized RX7 ∈ gU ∧ Cond.code yX7_finding cX7_finding 2 (some .int) ∈ gU ∧ (yX7_finding.cls = RX7 ∧ yX7_finding.cls ≠ "java/lang/invoke/MethodHandle" ∧ yX7_finding.cls ≠ "java/lang/invoke/VarHandle" ∧ (parseMethodDescriptor yX7_finding.desc).map (fun d => d.parameters.length) = some 1) := ⟨t_3 (i := 76) rfl rfl, t_s (i := 11) rfl rfl, t_1 (i := 1) rfl rfl, t_3 (i := 77) rfl rfl, by decide +kernel⟩
theorem mv_X7_refusalOfItem : Cond.instanceMethod yX7_refusalOfItem ∈ gU ∧ Cond.selects RX7 yX7_refusalOfItem yX7_refusalOfItem ∈ gU ∧ Cond.initialized RX7 ∈ gU ∧ Cond.code yX7_refusalOfItem cX7_refusalOfItem 4 (some .int) ∈ gU ∧ (yX7_refusalOfItem.cls = RX7 ∧ yX7_refusalOfItem.cls ≠ "java/lang/invoke/MethodHandle" ∧ yX7_refusalOfItem.cls ≠ "java/lang/invoke/VarHandle" ∧ (parseMethodDescriptor yX7_refusalOfItem.desc).map (fun d => d.parameters.length) = some 3) := ⟨t_3 (i := 147) rfl rfl, t_s (i := 15) rfl rfl, t_1 (i := 1) rfl rfl, t_3 (i := 148) rfl rfl, by decide +kernel⟩
theorem mi_X8_init : Cond.instanceMethod yX8_init ∈ gU ∧ Cond.initialized RX8 ∈ gU ∧ Cond.code yX8_init cX8_init 2 (none) ∈ gU := ⟨t_3 (i := 207) rfl rfl, t_1 (i := 12) rfl rfl, t_3 (i := 208) rfl rfl⟩
theorem ms_X8_in : Cond.static yX8_in ∈ gU ∧ Cond.initialized yX8_in.cls ∈ gU ∧ Cond.code yX8_in cX8_in 6 (some .boolean) ∈ gU ∧ (yX8_in.cls ≠ "java/lang/invoke/MethodHandle" ∧ yX8_in.cls ≠ "java/lang/invoke/VarHandle" ∧ (parseMethodDescriptor yX8_in.desc).map (fun d => d.parameters.length) = some 3) := ⟨t_4 (i := 70) rfl rfl, t_1 (i := 12) rfl rfl, t_4 (i := 71) rfl rfl, by decide +kernel⟩
theorem ms_X8_no : Cond.static yX8_no ∈ gU ∧ Cond.initialized yX8_no.cls ∈ gU ∧ Cond.code yX8_no cX8_no 1 (some .long) ∈ gU ∧ (yX8_no.cls ≠ "java/lang/invoke/MethodHandle" ∧ yX8_no.cls ≠ "java/lang/invoke/VarHandle" ∧ (parseMethodDescriptor yX8_no.desc).map (fun d => d.parameters.length) = some 1) := ⟨t_5 (i := 120) rfl rfl, t_1 (i := 12) rfl rfl, t_5 (i := 121) rfl rfl, by decide +kernel⟩
theorem ms_X8_isTwo : Cond.static yX8_isTwo ∈ gU ∧ Cond.initialized yX8_isTwo.cls ∈ gU ∧ Cond.code yX8_isTwo cX8_isTwo 1 (some .boolean) ∈ gU ∧ (yX8_isTwo.cls ≠ "java/lang/invoke/MethodHandle" ∧ yX8_isTwo.cls ≠ "java/lang/invoke/VarHandle" ∧ (parseMethodDescriptor yX8_isTwo.desc).map (fun d => d.parameters.length) = some 1) := ⟨t_4 (i := 106) rfl rfl, t_1 (i := 12) rfl rfl, t_4 (i := 107) rfl rfl, by decide +kernel⟩
theorem ms_X8_isIn : Cond.static yX8_isIn ∈ gU ∧ Cond.initialized yX8_isIn.cls ∈ gU ∧ Cond.code yX8_isIn cX8_isIn 2 (some .boolean) ∈ gU ∧ (yX8_isIn.cls ≠ "java/lang/invoke/MethodHandle" ∧ yX8_isIn.cls ≠ "java/lang/invoke/VarHandle" ∧ (parseMethodDescriptor yX8_isIn.desc).map (fun d => d.parameters.length) = some 2) := ⟨t_4 (i := 184) rfl rfl, t_1 (i := 12) rfl rfl, t_4 (i := 185) rfl rfl, by decide +kernel⟩
theorem ms_X8_ones : Cond.static yX8_ones ∈ gU ∧ Cond.initialized yX8_ones.cls ∈ gU ∧ Cond.code yX8_ones cX8_ones 3 (some .int) ∈ gU ∧ (yX8_ones.cls ≠ "java/lang/invoke/MethodHandle" ∧ yX8_ones.cls ≠ "java/lang/invoke/VarHandle" ∧ (parseMethodDescriptor yX8_ones.desc).map (fun d => d.parameters.length) = some 1) := ⟨t_5 (i := 44) rfl rfl, t_1 (i := 12) rfl rfl, t_5 (i := 45) rfl rfl, by decide +kernel⟩
theorem ms_X8_lesser : Cond.static yX8_lesser ∈ gU ∧ Cond.initialized yX8_lesser.cls ∈ gU ∧ Cond.code yX8_lesser cX8_lesser 2 (some .int) ∈ gU ∧ (yX8_lesser.cls ≠ "java/lang/invoke/MethodHandle" ∧ yX8_lesser.cls ≠ "java/lang/invoke/VarHandle" ∧ (parseMethodDescriptor yX8_lesser.desc).map (fun d => d.parameters.length) = some 2) := ⟨t_5 (i := 141) rfl rfl, t_1 (i := 12) rfl rfl, t_5 (i := 142) rfl rfl, by decide +kernel⟩
theorem ms_X8_greater : Cond.static yX8_greater ∈ gU ∧ Cond.initialized yX8_greater.cls ∈ gU ∧ Cond.code yX8_greater cX8_greater 2 (some .int) ∈ gU ∧ (yX8_greater.cls ≠ "java/lang/invoke/MethodHandle" ∧ yX8_greater.cls ≠ "java/lang/invoke/VarHandle" ∧ (parseMethodDescriptor yX8_greater.desc).map (fun d => d.parameters.length) = some 2) := ⟨t_5 (i := 55) rfl rfl, t_1 (i := 12) rfl rfl, t_5 (i := 56) rfl rfl, by decide +kernel⟩
theorem ms_X8_part : Cond.static yX8_part ∈ gU ∧ Cond.initialized yX8_part.cls ∈ gU ∧ Cond.code yX8_part cX8_part 11 (some .long) ∈ gU ∧ (yX8_part.cls ≠ "java/lang/invoke/MethodHandle" ∧ yX8_part.cls ≠ "java/lang/invoke/VarHandle" ∧ (parseMethodDescriptor yX8_part.desc).map (fun d => d.parameters.length) = some 3) := ⟨t_5 (i := 117) rfl rfl, t_1 (i := 12) rfl rfl, t_5 (i := 118) rfl rfl, by decide +kernel⟩
theorem mv_X8_finds : Cond.instanceMethod yX8_finds ∈ gU ∧ Cond.selects RX8 yX8_finds yX8_finds ∈ gU ∧ Cond.initialized RX8 ∈ gU ∧ Cond.code yX8_finds cX8_finds 2 (some .int) ∈ gU ∧ (yX8_finds.cls = RX8 ∧ yX8_finds.cls ≠ "java/lang/invoke/MethodHandle" ∧ yX8_finds.cls ≠ "java/lang/invoke/VarHandle" ∧ (parseMethodDescriptor yX8_finds.desc).map (fun d => d.parameters.length) = some 1) := ⟨t_4 (i := 75) rfl rfl, t_s (i := 16) rfl rfl, t_1 (i := 12) rfl rfl, t_4 (i := 76) rfl rfl, by decide +kernel⟩
theorem ms_X8_isSheet : Cond.static yX8_isSheet ∈ gU ∧ Cond.initialized yX8_isSheet.cls ∈ gU ∧ Cond.code yX8_isSheet cX8_isSheet 1 (some .boolean) ∈ gU ∧ (yX8_isSheet.cls ≠ "java/lang/invoke/MethodHandle" ∧ yX8_isSheet.cls ≠ "java/lang/invoke/VarHandle" ∧ (parseMethodDescriptor yX8_isSheet.desc).map (fun d => d.parameters.length) = some 1) := ⟨t_4 (i := 66) rfl rfl, t_1 (i := 12) rfl rfl, t_4 (i := 67) rfl rfl, by decide +kernel⟩
theorem mv_X8_sheet : Cond.instanceMethod yX8_sheet ∈ gU ∧ Cond.selects RX8 yX8_sheet yX8_sheet ∈ gU ∧ Cond.initialized RX8 ∈ gU ∧ Cond.code yX8_sheet cX8_sheet 5 (some .int) ∈ gU ∧ (yX8_sheet.cls = RX8 ∧ yX8_sheet.cls ≠ "java/lang/invoke/MethodHandle" ∧ yX8_sheet.cls ≠ "java/lang/invoke/VarHandle" ∧ (parseMethodDescriptor yX8_sheet.desc).map (fun d => d.parameters.length) = some 3) := ⟨t_4 (i := 62) rfl rfl, t_4 (i := 63) rfl rfl, t_1 (i := 12) rfl rfl, t_4 (i := 64) rfl rfl, by decide +kernel⟩
theorem mv_X8_lose : Cond.instanceMethod yX8_lose ∈ gU ∧ Cond.selects RX8 yX8_lose yX8_lose ∈ gU ∧ Cond.initialized RX8 ∈ gU ∧ Cond.code yX8_lose cX8_lose 2 (some .int) ∈ gU ∧ (yX8_lose.cls = RX8 ∧ yX8_lose.cls ≠ "java/lang/invoke/MethodHandle" ∧ yX8_lose.cls ≠ "java/lang/invoke/VarHandle" ∧ (parseMethodDescriptor yX8_lose.desc).map (fun d => d.parameters.length) = some 1) := ⟨t_4 (i := 78) rfl rfl, t_4 (i := 79) rfl rfl, t_1 (i := 12) rfl rfl, t_4 (i := 80) rfl rfl, by decide +kernel⟩
theorem mv_X8_lacks : Cond.instanceMethod yX8_lacks ∈ gU ∧ Cond.selects RX8 yX8_lacks yX8_lacks ∈ gU ∧ Cond.initialized RX8 ∈ gU ∧ Cond.code yX8_lacks cX8_lacks 4 (some .int) ∈ gU ∧ (yX8_lacks.cls = RX8 ∧ yX8_lacks.cls ≠ "java/lang/invoke/MethodHandle" ∧ yX8_lacks.cls ≠ "java/lang/invoke/VarHandle" ∧ (parseMethodDescriptor yX8_lacks.desc).map (fun d => d.parameters.length) = some 3) := ⟨t_4 (i := 87) rfl rfl, t_s (i := 17) rfl rfl, t_1 (i := 12) rfl rfl, t_4 (i := 88) rfl rfl, by decide +kernel⟩
theorem ms_X8_cut : Cond.static yX8_cut ∈ gU ∧ Cond.initialized yX8_cut.cls ∈ gU ∧ Cond.code yX8_cut cX8_cut 2 (some .int) ∈ gU ∧ (yX8_cut.cls ≠ "java/lang/invoke/MethodHandle" ∧ yX8_cut.cls ≠ "java/lang/invoke/VarHandle" ∧ (parseMethodDescriptor yX8_cut.desc).map (fun d => d.parameters.length) = some 2) := ⟨t_4 (i := 90) rfl rfl, t_1 (i := 12) rfl rfl, t_4 (i := 91) rfl rfl, by decide +kernel⟩
theorem mv_X8_lay : Cond.instanceMethod yX8_lay ∈ gU ∧ Cond.selects RX8 yX8_lay yX8_lay ∈ gU ∧ Cond.initialized RX8 ∈ gU ∧ Cond.code yX8_lay cX8_lay 6 (some .int) ∈ gU ∧ (yX8_lay.cls = RX8 ∧ yX8_lay.cls ≠ "java/lang/invoke/MethodHandle" ∧ yX8_lay.cls ≠ "java/lang/invoke/VarHandle" ∧ (parseMethodDescriptor yX8_lay.desc).map (fun d => d.parameters.length) = some 4) := ⟨t_4 (i := 82) rfl rfl, t_4 (i := 83) rfl rfl, t_1 (i := 12) rfl rfl, t_4 (i := 84) rfl rfl, by decide +kernel⟩
theorem mv_X8_get : Cond.instanceMethod yX8_get ∈ gU ∧ Cond.selects RX8 yX8_get yX8_get ∈ gU ∧ Cond.initialized RX8 ∈ gU ∧ Cond.code yX8_get cX8_get 4 (some .int) ∈ gU ∧ (yX8_get.cls = RX8 ∧ yX8_get.cls ≠ "java/lang/invoke/MethodHandle" ∧ yX8_get.cls ≠ "java/lang/invoke/VarHandle" ∧ (parseMethodDescriptor yX8_get.desc).map (fun d => d.parameters.length) = some 3) := ⟨t_4 (i := 93) rfl rfl, t_4 (i := 94) rfl rfl, t_1 (i := 12) rfl rfl, t_4 (i := 95) rfl rfl, by decide +kernel⟩
theorem mv_X8_copy : Cond.instanceMethod yX8_copy ∈ gU ∧ Cond.selects RX8 yX8_copy yX8_copy ∈ gU ∧ Cond.initialized RX8 ∈ gU ∧ Cond.code yX8_copy cX8_copy 7 (some .int) ∈ gU ∧ (yX8_copy.cls = RX8 ∧ yX8_copy.cls ≠ "java/lang/invoke/MethodHandle" ∧ yX8_copy.cls ≠ "java/lang/invoke/VarHandle" ∧ (parseMethodDescriptor yX8_copy.desc).map (fun d => d.parameters.length) = some 5) := ⟨t_4 (i := 98) rfl rfl, t_4 (i := 99) rfl rfl, t_1 (i := 12) rfl rfl, t_4 (i := 100) rfl rfl, by decide +kernel⟩
theorem mv_X8_type : Cond.instanceMethod yX8_type ∈ gU ∧ Cond.selects RX8 yX8_type yX8_type ∈ gU ∧ Cond.initialized RX8 ∈ gU ∧ Cond.code yX8_type cX8_type 3 (some .int) ∈ gU ∧ (yX8_type.cls = RX8 ∧ yX8_type.cls ≠ "java/lang/invoke/MethodHandle" ∧ yX8_type.cls ≠ "java/lang/invoke/VarHandle" ∧ (parseMethodDescriptor yX8_type.desc).map (fun d => d.parameters.length) = some 2) := ⟨t_4 (i := 102) rfl rfl, t_4 (i := 103) rfl rfl, t_1 (i := 12) rfl rfl, t_4 (i := 104) rfl rfl, by decide +kernel⟩
theorem mv_X8_wipe : Cond.instanceMethod yX8_wipe ∈ gU ∧ Cond.selects RX8 yX8_wipe yX8_wipe ∈ gU ∧ Cond.initialized RX8 ∈ gU ∧ Cond.code yX8_wipe cX8_wipe 3 (some .int) ∈ gU ∧ (yX8_wipe.cls = RX8 ∧ yX8_wipe.cls ≠ "java/lang/invoke/MethodHandle" ∧ yX8_wipe.cls ≠ "java/lang/invoke/VarHandle" ∧ (parseMethodDescriptor yX8_wipe.desc).map (fun d => d.parameters.length) = some 1) := ⟨t_4 (i := 110) rfl rfl, t_4 (i := 111) rfl rfl, t_1 (i := 12) rfl rfl, t_4 (i := 112) rfl rfl, by decide +kernel⟩
theorem mv_X8_undo : Cond.instanceMethod yX8_undo ∈ gU ∧ Cond.selects RX8 yX8_undo yX8_undo ∈ gU ∧ Cond.initialized RX8 ∈ gU ∧ Cond.code yX8_undo cX8_undo 2 (some .int) ∈ gU ∧ (yX8_undo.cls = RX8 ∧ yX8_undo.cls ≠ "java/lang/invoke/MethodHandle" ∧ yX8_undo.cls ≠ "java/lang/invoke/VarHandle" ∧ (parseMethodDescriptor yX8_undo.desc).map (fun d => d.parameters.length) = some 1) := ⟨t_4 (i := 114) rfl rfl, t_4 (i := 115) rfl rfl, t_1 (i := 12) rfl rfl, t_4 (i := 116) rfl rfl, by decide +kernel⟩
theorem ms_X8_letterOf : Cond.static yX8_letterOf ∈ gU ∧ Cond.initialized yX8_letterOf.cls ∈ gU ∧ Cond.code yX8_letterOf cX8_letterOf 1 (some .int) ∈ gU ∧ (yX8_letterOf.cls ≠ "java/lang/invoke/MethodHandle" ∧ yX8_letterOf.cls ≠ "java/lang/invoke/VarHandle" ∧ (parseMethodDescriptor yX8_letterOf.desc).map (fun d => d.parameters.length) = some 1) := ⟨t_4 (i := 129) rfl rfl, t_1 (i := 12) rfl rfl, t_4 (i := 130) rfl rfl, by decide +kernel⟩
theorem ms_X8_riderOf : Cond.static yX8_riderOf ∈ gU ∧ Cond.initialized yX8_riderOf.cls ∈ gU ∧ Cond.code yX8_riderOf cX8_riderOf 2 (some .int) ∈ gU ∧ (yX8_riderOf.cls ≠ "java/lang/invoke/MethodHandle" ∧ yX8_riderOf.cls ≠ "java/lang/invoke/VarHandle" ∧ (parseMethodDescriptor yX8_riderOf.desc).map (fun d => d.parameters.length) = some 2) := ⟨t_4 (i := 126) rfl rfl, t_1 (i := 12) rfl rfl, t_4 (i := 127) rfl rfl, by decide +kernel⟩
theorem mv_X8_readsRiders : Cond.instanceMethod yX8_readsRiders ∈ gU ∧ Cond.selects RX8 yX8_readsRiders yX8_readsRiders ∈ gU ∧ Cond.initialized RX8 ∈ gU ∧ Cond.code yX8_readsRiders cX8_readsRiders 5 (some .int) ∈ gU ∧ (yX8_readsRiders.cls = RX8 ∧ yX8_readsRiders.cls ≠ "java/lang/invoke/MethodHandle" ∧ yX8_readsRiders.cls ≠ "java/lang/invoke/VarHandle" ∧ (parseMethodDescriptor yX8_readsRiders.desc).map (fun d => d.parameters.length) = some 0) := ⟨t_4 (i := 123) rfl rfl, t_s (i := 18) rfl rfl, t_1 (i := 12) rfl rfl, t_4 (i := 124) rfl rfl, by decide +kernel⟩
theorem mv_X8_readsBag : Cond.instanceMethod yX8_readsBag ∈ gU ∧ Cond.selects RX8 yX8_readsBag yX8_readsBag ∈ gU ∧ Cond.initialized RX8 ∈ gU ∧ Cond.code yX8_readsBag cX8_readsBag 4 (some .int) ∈ gU ∧ (yX8_readsBag.cls = RX8 ∧ yX8_readsBag.cls ≠ "java/lang/invoke/MethodHandle" ∧ yX8_readsBag.cls ≠ "java/lang/invoke/VarHandle" ∧ (parseMethodDescriptor yX8_readsBag.desc).map (fun d => d.parameters.length) = some 0) := ⟨t_4 (i := 137) rfl rfl, t_s (i := 19) rfl rfl, t_1 (i := 12) rfl rfl, t_4 (i := 138) rfl rfl, by decide +kernel⟩
theorem mv_X8_fault : Cond.instanceMethod yX8_fault ∈ gU ∧ Cond.selects RX8 yX8_fault yX8_fault ∈ gU ∧ Cond.initialized RX8 ∈ gU ∧ Cond.code yX8_fault cX8_fault 2 (some .int) ∈ gU ∧ (yX8_fault.cls = RX8 ∧ yX8_fault.cls ≠ "java/lang/invoke/MethodHandle" ∧ yX8_fault.cls ≠ "java/lang/invoke/VarHandle" ∧ (parseMethodDescriptor yX8_fault.desc).map (fun d => d.parameters.length) = some 1) := ⟨t_4 (i := 118) rfl rfl, t_4 (i := 119) rfl rfl, t_1 (i := 12) rfl rfl, t_4 (i := 120) rfl rfl, by decide +kernel⟩
theorem mv_X8_isRider : Cond.instanceMethod yX8_isRider ∈ gU ∧ Cond.selects RX8 yX8_isRider yX8_isRider ∈ gU ∧ Cond.initialized RX8 ∈ gU ∧ Cond.code yX8_isRider cX8_isRider 2 (some .boolean) ∈ gU ∧ (yX8_isRider.cls = RX8 ∧ yX8_isRider.cls ≠ "java/lang/invoke/MethodHandle" ∧ yX8_isRider.cls ≠ "java/lang/invoke/VarHandle" ∧ (parseMethodDescriptor yX8_isRider.desc).map (fun d => d.parameters.length) = some 1) := ⟨t_4 (i := 147) rfl rfl, t_s (i := 20) rfl rfl, t_1 (i := 12) rfl rfl, t_4 (i := 148) rfl rfl, by decide +kernel⟩
theorem ms_X8_isDay : Cond.static yX8_isDay ∈ gU ∧ Cond.initialized yX8_isDay.cls ∈ gU ∧ Cond.code yX8_isDay cX8_isDay 1 (some .boolean) ∈ gU ∧ (yX8_isDay.cls ≠ "java/lang/invoke/MethodHandle" ∧ yX8_isDay.cls ≠ "java/lang/invoke/VarHandle" ∧ (parseMethodDescriptor yX8_isDay.desc).map (fun d => d.parameters.length) = some 1) := ⟨t_4 (i := 215) rfl rfl, t_1 (i := 12) rfl rfl, t_4 (i := 216) rfl rfl, by decide +kernel⟩
theorem mv_X8_rider : Cond.instanceMethod yX8_rider ∈ gU ∧ Cond.selects RX8 yX8_rider yX8_rider ∈ gU ∧ Cond.initialized RX8 ∈ gU ∧ Cond.code yX8_rider cX8_rider 3 (some .int) ∈ gU ∧ (yX8_rider.cls = RX8 ∧ yX8_rider.cls ≠ "java/lang/invoke/MethodHandle" ∧ yX8_rider.cls ≠ "java/lang/invoke/VarHandle" ∧ (parseMethodDescriptor yX8_rider.desc).map (fun d => d.parameters.length) = some 2) := ⟨t_4 (i := 142) rfl rfl, t_4 (i := 143) rfl rfl, t_1 (i := 12) rfl rfl, t_4 (i := 144) rfl rfl, by decide +kernel⟩
theorem mv_X8_worth : Cond.instanceMethod yX8_worth ∈ gU ∧ Cond.selects RX8 yX8_worth yX8_worth ∈ gU ∧ Cond.initialized RX8 ∈ gU ∧ Cond.code yX8_worth cX8_worth 4 (some .int) ∈ gU ∧ (yX8_worth.cls = RX8 ∧ yX8_worth.cls ≠ "java/lang/invoke/MethodHandle" ∧ yX8_worth.cls ≠ "java/lang/invoke/VarHandle" ∧ (parseMethodDescriptor yX8_worth.desc).map (fun d => d.parameters.length) = some 2) := ⟨t_4 (i := 150) rfl rfl, t_4 (i := 151) rfl rfl, t_1 (i := 12) rfl rfl, t_4 (i := 152) rfl rfl, by decide +kernel⟩
theorem mv_X8_set : Cond.instanceMethod yX8_set ∈ gU ∧ Cond.selects RX8 yX8_set yX8_set ∈ gU ∧ Cond.initialized RX8 ∈ gU ∧ Cond.code yX8_set cX8_set 5 (some .int) ∈ gU ∧ (yX8_set.cls = RX8 ∧ yX8_set.cls ≠ "java/lang/invoke/MethodHandle" ∧ yX8_set.cls ≠ "java/lang/invoke/VarHandle" ∧ (parseMethodDescriptor yX8_set.desc).map (fun d => d.parameters.length) = some 2) := ⟨t_4 (i := 156) rfl rfl, t_4 (i := 157) rfl rfl, t_1 (i := 12) rfl rfl, t_4 (i := 158) rfl rfl, by decide +kernel⟩
theorem mv_X8_puts : Cond.instanceMethod yX8_puts ∈ gU ∧ Cond.selects RX8 yX8_puts yX8_puts ∈ gU ∧ Cond.initialized RX8 ∈ gU ∧ Cond.code yX8_puts cX8_puts 2 (none) ∈ gU ∧ (yX8_puts.cls = RX8 ∧ yX8_puts.cls ≠ "java/lang/invoke/MethodHandle" ∧ yX8_puts.cls ≠ "java/lang/invoke/VarHandle" ∧ (parseMethodDescriptor yX8_puts.desc).map (fun d => d.parameters.length) = some 1) := ⟨t_4 (i := 177) rfl rfl, t_s (i := 24) rfl rfl, t_1 (i := 12) rfl rfl, t_4 (i := 178) rfl rfl, by decide +kernel⟩
theorem mv_X8_find : Cond.instanceMethod yX8_find ∈ gU ∧ Cond.selects RX8 yX8_find yX8_find ∈ gU ∧ Cond.initialized RX8 ∈ gU ∧ Cond.code yX8_find cX8_find 3 (some .int) ∈ gU ∧ (yX8_find.cls = RX8 ∧ yX8_find.cls ≠ "java/lang/invoke/MethodHandle" ∧ yX8_find.cls ≠ "java/lang/invoke/VarHandle" ∧ (parseMethodDescriptor yX8_find.desc).map (fun d => d.parameters.length) = some 1) := ⟨t_4 (i := 196) rfl rfl, t_s (i := 28) rfl rfl, t_1 (i := 12) rfl rfl, t_4 (i := 197) rfl rfl, by decide +kernel⟩
theorem mv_X8_takes : Cond.instanceMethod yX8_takes ∈ gU ∧ Cond.selects RX8 yX8_takes yX8_takes ∈ gU ∧ Cond.initialized RX8 ∈ gU ∧ Cond.code yX8_takes cX8_takes 3 (none) ∈ gU ∧ (yX8_takes.cls = RX8 ∧ yX8_takes.cls ≠ "java/lang/invoke/MethodHandle" ∧ yX8_takes.cls ≠ "java/lang/invoke/VarHandle" ∧ (parseMethodDescriptor yX8_takes.desc).map (fun d => d.parameters.length) = some 1) := ⟨t_4 (i := 200) rfl rfl, t_s (i := 29) rfl rfl, t_1 (i := 12) rfl rfl, t_4 (i := 201) rfl rfl, by decide +kernel⟩
theorem mv_X8_may : Cond.instanceMethod yX8_may ∈ gU ∧ Cond.selects RX8 yX8_may yX8_may ∈ gU ∧ Cond.initialized RX8 ∈ gU ∧ Cond.code yX8_may cX8_may 3 (some .boolean) ∈ gU ∧ (yX8_may.cls = RX8 ∧ yX8_may.cls ≠ "java/lang/invoke/MethodHandle" ∧ yX8_may.cls ≠ "java/lang/invoke/VarHandle" ∧ (parseMethodDescriptor yX8_may.desc).map (fun d => d.parameters.length) = some 1) := ⟨t_4 (i := 188) rfl rfl, t_s (i := 26) rfl rfl, t_1 (i := 12) rfl rfl, t_4 (i := 189) rfl rfl, by decide +kernel⟩
theorem mv_X8_other : Cond.instanceMethod yX8_other ∈ gU ∧ Cond.selects RX8 yX8_other yX8_other ∈ gU ∧ Cond.initialized RX8 ∈ gU ∧ Cond.code yX8_other cX8_other 3 (some .int) ∈ gU ∧ (yX8_other.cls = RX8 ∧ yX8_other.cls ≠ "java/lang/invoke/MethodHandle" ∧ yX8_other.cls ≠ "java/lang/invoke/VarHandle" ∧ (parseMethodDescriptor yX8_other.desc).map (fun d => d.parameters.length) = some 1) := ⟨t_4 (i := 208) rfl rfl, t_s (i := 31) rfl rfl, t_1 (i := 12) rfl rfl, t_4 (i := 209) rfl rfl, by decide +kernel⟩
theorem mv_X8_gives : Cond.instanceMethod yX8_gives ∈ gU ∧ Cond.selects RX8 yX8_gives yX8_gives ∈ gU ∧ Cond.initialized RX8 ∈ gU ∧ Cond.code yX8_gives cX8_gives 3 (none) ∈ gU ∧ (yX8_gives.cls = RX8 ∧ yX8_gives.cls ≠ "java/lang/invoke/MethodHandle" ∧ yX8_gives.cls ≠ "java/lang/invoke/VarHandle" ∧ (parseMethodDescriptor yX8_gives.desc).map (fun d => d.parameters.length) = some 2) := ⟨t_4 (i := 204) rfl rfl, t_s (i := 30) rfl rfl, t_1 (i := 12) rfl rfl, t_4 (i := 205) rfl rfl, by decide +kernel⟩
theorem mv_X8_changesOne : Cond.instanceMethod yX8_changesOne ∈ gU ∧ Cond.selects RX8 yX8_changesOne yX8_changesOne ∈ gU ∧ Cond.initialized RX8 ∈ gU ∧ Cond.code yX8_changesOne cX8_changesOne 6 (some .boolean) ∈ gU ∧ (yX8_changesOne.cls = RX8 ∧ yX8_changesOne.cls ≠ "java/lang/invoke/MethodHandle" ∧ yX8_changesOne.cls ≠ "java/lang/invoke/VarHandle" ∧ (parseMethodDescriptor yX8_changesOne.desc).map (fun d => d.parameters.length) = some 1) := ⟨t_4 (i := 192) rfl rfl, t_s (i := 27) rfl rfl, t_1 (i := 12) rfl rfl, t_4 (i := 193) rfl rfl, by decide +kernel⟩
theorem mv_X8_stops : Cond.instanceMethod yX8_stops ∈ gU ∧ Cond.selects RX8 yX8_stops yX8_stops ∈ gU ∧ Cond.initialized RX8 ∈ gU ∧ Cond.code yX8_stops cX8_stops 4 (none) ∈ gU ∧ (yX8_stops.cls = RX8 ∧ yX8_stops.cls ≠ "java/lang/invoke/MethodHandle" ∧ yX8_stops.cls ≠ "java/lang/invoke/VarHandle" ∧ (parseMethodDescriptor yX8_stops.desc).map (fun d => d.parameters.length) = some 2) := ⟨t_4 (i := 181) rfl rfl, t_s (i := 25) rfl rfl, t_1 (i := 12) rfl rfl, t_4 (i := 182) rfl rfl, by decide +kernel⟩
theorem mv_X8_keeps : Cond.instanceMethod yX8_keeps ∈ gU ∧ Cond.selects RX8 yX8_keeps yX8_keeps ∈ gU ∧ Cond.initialized RX8 ∈ gU ∧ Cond.code yX8_keeps cX8_keeps 3 (none) ∈ gU ∧ (yX8_keeps.cls = RX8 ∧ yX8_keeps.cls ≠ "java/lang/invoke/MethodHandle" ∧ yX8_keeps.cls ≠ "java/lang/invoke/VarHandle" ∧ (parseMethodDescriptor yX8_keeps.desc).map (fun d => d.parameters.length) = some 1) := ⟨t_4 (i := 212) rfl rfl, t_s (i := 32) rfl rfl, t_1 (i := 12) rfl rfl, t_4 (i := 213) rfl rfl, by decide +kernel⟩
theorem mv_X8_begins : Cond.instanceMethod yX8_begins ∈ gU ∧ Cond.selects RX8 yX8_begins yX8_begins ∈ gU ∧ Cond.initialized RX8 ∈ gU ∧ Cond.code yX8_begins cX8_begins 2 (none) ∈ gU ∧ (yX8_begins.cls = RX8 ∧ yX8_begins.cls ≠ "java/lang/invoke/MethodHandle" ∧ yX8_begins.cls ≠ "java/lang/invoke/VarHandle" ∧ (parseMethodDescriptor yX8_begins.desc).map (fun d => d.parameters.length) = some 0) := ⟨t_4 (i := 173) rfl rfl, t_s (i := 23) rfl rfl, t_1 (i := 12) rfl rfl, t_4 (i := 174) rfl rfl, by decide +kernel⟩
theorem mv_X8_lives : Cond.instanceMethod yX8_lives ∈ gU ∧ Cond.selects RX8 yX8_lives yX8_lives ∈ gU ∧ Cond.initialized RX8 ∈ gU ∧ Cond.code yX8_lives cX8_lives 4 (none) ∈ gU ∧ (yX8_lives.cls = RX8 ∧ yX8_lives.cls ≠ "java/lang/invoke/MethodHandle" ∧ yX8_lives.cls ≠ "java/lang/invoke/VarHandle" ∧ (parseMethodDescriptor yX8_lives.desc).map (fun d => d.parameters.length) = some 0) := ⟨t_4 (i := 169) rfl rfl, t_s (i := 22) rfl rfl, t_1 (i := 12) rfl rfl, t_4 (i := 170) rfl rfl, by decide +kernel⟩
theorem mv_X8_reads : Cond.instanceMethod yX8_reads ∈ gU ∧ Cond.selects RX8 yX8_reads yX8_reads ∈ gU ∧ Cond.initialized RX8 ∈ gU ∧ Cond.code yX8_reads cX8_reads 1 (none) ∈ gU ∧ (yX8_reads.cls = RX8 ∧ yX8_reads.cls ≠ "java/lang/invoke/MethodHandle" ∧ yX8_reads.cls ≠ "java/lang/invoke/VarHandle" ∧ (parseMethodDescriptor yX8_reads.desc).map (fun d => d.parameters.length) = some 0) := ⟨t_4 (i := 165) rfl rfl, t_s (i := 21) rfl rfl, t_1 (i := 12) rfl rfl, t_4 (i := 166) rfl rfl, by decide +kernel⟩
theorem mv_X8_has : Cond.instanceMethod yX8_has ∈ gU ∧ Cond.selects RX8 yX8_has yX8_has ∈ gU ∧ Cond.initialized RX8 ∈ gU ∧ Cond.code yX8_has cX8_has 3 (some .int) ∈ gU ∧ (yX8_has.cls = RX8 ∧ yX8_has.cls ≠ "java/lang/invoke/MethodHandle" ∧ yX8_has.cls ≠ "java/lang/invoke/VarHandle" ∧ (parseMethodDescriptor yX8_has.desc).map (fun d => d.parameters.length) = some 2) := ⟨t_4 (i := 160) rfl rfl, t_4 (i := 161) rfl rfl, t_1 (i := 12) rfl rfl, t_4 (i := 162) rfl rfl, by decide +kernel⟩
theorem mv_X8_torn : Cond.instanceMethod yX8_torn ∈ gU ∧ Cond.selects RX8 yX8_torn yX8_torn ∈ gU ∧ Cond.initialized RX8 ∈ gU ∧ Cond.code yX8_torn cX8_torn 3 (some .int) ∈ gU ∧ (yX8_torn.cls = RX8 ∧ yX8_torn.cls ≠ "java/lang/invoke/MethodHandle" ∧ yX8_torn.cls ≠ "java/lang/invoke/VarHandle" ∧ (parseMethodDescriptor yX8_torn.desc).map (fun d => d.parameters.length) = some 2) := ⟨t_4 (i := 218) rfl rfl, t_4 (i := 219) rfl rfl, t_1 (i := 12) rfl rfl, t_4 (i := 220) rfl rfl, by decide +kernel⟩
theorem mv_X8_bagOf : Cond.instanceMethod yX8_bagOf ∈ gU ∧ Cond.selects RX8 yX8_bagOf yX8_bagOf ∈ gU ∧ Cond.initialized RX8 ∈ gU ∧ Cond.code yX8_bagOf cX8_bagOf 3 (some .int) ∈ gU ∧ (yX8_bagOf.cls = RX8 ∧ yX8_bagOf.cls ≠ "java/lang/invoke/MethodHandle" ∧ yX8_bagOf.cls ≠ "java/lang/invoke/VarHandle" ∧ (parseMethodDescriptor yX8_bagOf.desc).map (fun d => d.parameters.length) = some 2) := ⟨t_4 (i := 229) rfl rfl, t_s (i := 33) rfl rfl, t_1 (i := 12) rfl rfl, t_4 (i := 230) rfl rfl, by decide +kernel⟩
theorem mv_X8_bag : Cond.instanceMethod yX8_bag ∈ gU ∧ Cond.selects RX8 yX8_bag yX8_bag ∈ gU ∧ Cond.initialized RX8 ∈ gU ∧ Cond.code yX8_bag cX8_bag 3 (some .int) ∈ gU ∧ (yX8_bag.cls = RX8 ∧ yX8_bag.cls ≠ "java/lang/invoke/MethodHandle" ∧ yX8_bag.cls ≠ "java/lang/invoke/VarHandle" ∧ (parseMethodDescriptor yX8_bag.desc).map (fun d => d.parameters.length) = some 2) := ⟨t_4 (i := 222) rfl rfl, t_4 (i := 223) rfl rfl, t_1 (i := 12) rfl rfl, t_4 (i := 224) rfl rfl, by decide +kernel⟩
theorem mv_X8_isServed : Cond.instanceMethod yX8_isServed ∈ gU ∧ Cond.selects RX8 yX8_isServed yX8_isServed ∈ gU ∧ Cond.initialized RX8 ∈ gU ∧ Cond.code yX8_isServed cX8_isServed 3 (some .boolean) ∈ gU ∧ (yX8_isServed.cls = RX8 ∧ yX8_isServed.cls ≠ "java/lang/invoke/MethodHandle" ∧ yX8_isServed.cls ≠ "java/lang/invoke/VarHandle" ∧ (parseMethodDescriptor yX8_isServed.desc).map (fun d => d.parameters.length) = some 2) := ⟨t_5 (i := 1) rfl rfl, t_s (i := 35) rfl rfl, t_1 (i := 12) rfl rfl, t_5 (i := 2) rfl rfl, by decide +kernel⟩
theorem mv_X8_getsOf : Cond.instanceMethod yX8_getsOf ∈ gU ∧ Cond.selects RX8 yX8_getsOf yX8_getsOf ∈ gU ∧ Cond.initialized RX8 ∈ gU ∧ Cond.code yX8_getsOf cX8_getsOf 3 (some .int) ∈ gU ∧ (yX8_getsOf.cls = RX8 ∧ yX8_getsOf.cls ≠ "java/lang/invoke/MethodHandle" ∧ yX8_getsOf.cls ≠ "java/lang/invoke/VarHandle" ∧ (parseMethodDescriptor yX8_getsOf.desc).map (fun d => d.parameters.length) = some 1) := ⟨t_4 (i := 237) rfl rfl, t_s (i := 34) rfl rfl, t_1 (i := 12) rfl rfl, t_4 (i := 238) rfl rfl, by decide +kernel⟩
theorem mv_X8_gets : Cond.instanceMethod yX8_gets ∈ gU ∧ Cond.selects RX8 yX8_gets yX8_gets ∈ gU ∧ Cond.initialized RX8 ∈ gU ∧ Cond.code yX8_gets cX8_gets 2 (some .int) ∈ gU ∧ (yX8_gets.cls = RX8 ∧ yX8_gets.cls ≠ "java/lang/invoke/MethodHandle" ∧ yX8_gets.cls ≠ "java/lang/invoke/VarHandle" ∧ (parseMethodDescriptor yX8_gets.desc).map (fun d => d.parameters.length) = some 1) := ⟨t_4 (i := 232) rfl rfl, t_4 (i := 233) rfl rfl, t_1 (i := 12) rfl rfl, t_4 (i := 234) rfl rfl, by decide +kernel⟩
theorem mv_X8_first : Cond.instanceMethod yX8_first ∈ gU ∧ Cond.selects RX8 yX8_first yX8_first ∈ gU ∧ Cond.initialized RX8 ∈ gU ∧ Cond.code yX8_first cX8_first 2 (some .int) ∈ gU ∧ (yX8_first.cls = RX8 ∧ yX8_first.cls ≠ "java/lang/invoke/MethodHandle" ∧ yX8_first.cls ≠ "java/lang/invoke/VarHandle" ∧ (parseMethodDescriptor yX8_first.desc).map (fun d => d.parameters.length) = some 1) := ⟨t_5 (i := 4) rfl rfl, t_5 (i := 5) rfl rfl, t_1 (i := 12) rfl rfl, t_5 (i := 6) rfl rfl, by decide +kernel⟩
theorem mv_X8_still : Cond.instanceMethod yX8_still ∈ gU ∧ Cond.selects RX8 yX8_still yX8_still ∈ gU ∧ Cond.initialized RX8 ∈ gU ∧ Cond.code yX8_still cX8_still 1 (some .int) ∈ gU ∧ (yX8_still.cls = RX8 ∧ yX8_still.cls ≠ "java/lang/invoke/MethodHandle" ∧ yX8_still.cls ≠ "java/lang/invoke/VarHandle" ∧ (parseMethodDescriptor yX8_still.desc).map (fun d => d.parameters.length) = some 0) := ⟨t_5 (i := 8) rfl rfl, t_5 (i := 9) rfl rfl, t_1 (i := 12) rfl rfl, t_5 (i := 10) rfl rfl, by decide +kernel⟩
theorem mv_X8_servedBy : Cond.instanceMethod yX8_servedBy ∈ gU ∧ Cond.selects RX8 yX8_servedBy yX8_servedBy ∈ gU ∧ Cond.initialized RX8 ∈ gU ∧ Cond.code yX8_servedBy cX8_servedBy 4 (some .int) ∈ gU ∧ (yX8_servedBy.cls = RX8 ∧ yX8_servedBy.cls ≠ "java/lang/invoke/MethodHandle" ∧ yX8_servedBy.cls ≠ "java/lang/invoke/VarHandle" ∧ (parseMethodDescriptor yX8_servedBy.desc).map (fun d => d.parameters.length) = some 1) := ⟨t_5 (i := 17) rfl rfl, t_s (i := 36) rfl rfl, t_1 (i := 12) rfl rfl, t_5 (i := 18) rfl rfl, by decide +kernel⟩
theorem mv_X8_served : Cond.instanceMethod yX8_served ∈ gU ∧ Cond.selects RX8 yX8_served yX8_served ∈ gU ∧ Cond.initialized RX8 ∈ gU ∧ Cond.code yX8_served cX8_served 2 (some .int) ∈ gU ∧ (yX8_served.cls = RX8 ∧ yX8_served.cls ≠ "java/lang/invoke/MethodHandle" ∧ yX8_served.cls ≠ "java/lang/invoke/VarHandle" ∧ (parseMethodDescriptor yX8_served.desc).map (fun d => d.parameters.length) = some 1) := ⟨t_5 (i := 12) rfl rfl, t_5 (i := 13) rfl rfl, t_1 (i := 12) rfl rfl, t_5 (i := 14) rfl rfl, by decide +kernel⟩
theorem mv_X8_wantsOf : Cond.instanceMethod yX8_wantsOf ∈ gU ∧ Cond.selects RX8 yX8_wantsOf yX8_wantsOf ∈ gU ∧ Cond.initialized RX8 ∈ gU ∧ Cond.code yX8_wantsOf cX8_wantsOf 3 (some .boolean) ∈ gU ∧ (yX8_wantsOf.cls = RX8 ∧ yX8_wantsOf.cls ≠ "java/lang/invoke/MethodHandle" ∧ yX8_wantsOf.cls ≠ "java/lang/invoke/VarHandle" ∧ (parseMethodDescriptor yX8_wantsOf.desc).map (fun d => d.parameters.length) = some 2) := ⟨t_5 (i := 33) rfl rfl, t_s (i := 39) rfl rfl, t_1 (i := 12) rfl rfl, t_5 (i := 34) rfl rfl, by decide +kernel⟩
theorem mv_X8_isRing : Cond.instanceMethod yX8_isRing ∈ gU ∧ Cond.selects RX8 yX8_isRing yX8_isRing ∈ gU ∧ Cond.initialized RX8 ∈ gU ∧ Cond.code yX8_isRing cX8_isRing 4 (some .boolean) ∈ gU ∧ (yX8_isRing.cls = RX8 ∧ yX8_isRing.cls ≠ "java/lang/invoke/MethodHandle" ∧ yX8_isRing.cls ≠ "java/lang/invoke/VarHandle" ∧ (parseMethodDescriptor yX8_isRing.desc).map (fun d => d.parameters.length) = some 3) := ⟨t_5 (i := 29) rfl rfl, t_s (i := 38) rfl rfl, t_1 (i := 12) rfl rfl, t_5 (i := 30) rfl rfl, by decide +kernel⟩
theorem mv_X8_ringsNow : Cond.instanceMethod yX8_ringsNow ∈ gU ∧ Cond.selects RX8 yX8_ringsNow yX8_ringsNow ∈ gU ∧ Cond.initialized RX8 ∈ gU ∧ Cond.code yX8_ringsNow cX8_ringsNow 8 (some .int) ∈ gU ∧ (yX8_ringsNow.cls = RX8 ∧ yX8_ringsNow.cls ≠ "java/lang/invoke/MethodHandle" ∧ yX8_ringsNow.cls ≠ "java/lang/invoke/VarHandle" ∧ (parseMethodDescriptor yX8_ringsNow.desc).map (fun d => d.parameters.length) = some 1) := ⟨t_5 (i := 25) rfl rfl, t_s (i := 37) rfl rfl, t_1 (i := 12) rfl rfl, t_5 (i := 26) rfl rfl, by decide +kernel⟩
theorem mv_X8_rings : Cond.instanceMethod yX8_rings ∈ gU ∧ Cond.selects RX8 yX8_rings yX8_rings ∈ gU ∧ Cond.initialized RX8 ∈ gU ∧ Cond.code yX8_rings cX8_rings 2 (some .int) ∈ gU ∧ (yX8_rings.cls = RX8 ∧ yX8_rings.cls ≠ "java/lang/invoke/MethodHandle" ∧ yX8_rings.cls ≠ "java/lang/invoke/VarHandle" ∧ (parseMethodDescriptor yX8_rings.desc).map (fun d => d.parameters.length) = some 1) := ⟨t_5 (i := 20) rfl rfl, t_5 (i := 21) rfl rfl, t_1 (i := 12) rfl rfl, t_5 (i := 22) rfl rfl, by decide +kernel⟩
theorem mv_X8_openOf : Cond.instanceMethod yX8_openOf ∈ gU ∧ Cond.selects RX8 yX8_openOf yX8_openOf ∈ gU ∧ Cond.initialized RX8 ∈ gU ∧ Cond.code yX8_openOf cX8_openOf 8 (some .int) ∈ gU ∧ (yX8_openOf.cls = RX8 ∧ yX8_openOf.cls ≠ "java/lang/invoke/MethodHandle" ∧ yX8_openOf.cls ≠ "java/lang/invoke/VarHandle" ∧ (parseMethodDescriptor yX8_openOf.desc).map (fun d => d.parameters.length) = some 2) := ⟨t_5 (i := 41) rfl rfl, t_s (i := 40) rfl rfl, t_1 (i := 12) rfl rfl, t_5 (i := 42) rfl rfl, by decide +kernel⟩
theorem mv_X8_open : Cond.instanceMethod yX8_open ∈ gU ∧ Cond.selects RX8 yX8_open yX8_open ∈ gU ∧ Cond.initialized RX8 ∈ gU ∧ Cond.code yX8_open cX8_open 3 (some .int) ∈ gU ∧ (yX8_open.cls = RX8 ∧ yX8_open.cls ≠ "java/lang/invoke/MethodHandle" ∧ yX8_open.cls ≠ "java/lang/invoke/VarHandle" ∧ (parseMethodDescriptor yX8_open.desc).map (fun d => d.parameters.length) = some 2) := ⟨t_5 (i := 36) rfl rfl, t_5 (i := 37) rfl rfl, t_1 (i := 12) rfl rfl, t_5 (i := 38) rfl rfl, by decide +kernel⟩
theorem mv_X8_leastOf : Cond.instanceMethod yX8_leastOf ∈ gU ∧ Cond.selects RX8 yX8_leastOf yX8_leastOf ∈ gU ∧ Cond.initialized RX8 ∈ gU ∧ Cond.code yX8_leastOf cX8_leastOf 7 (some .int) ∈ gU ∧ (yX8_leastOf.cls = RX8 ∧ yX8_leastOf.cls ≠ "java/lang/invoke/MethodHandle" ∧ yX8_leastOf.cls ≠ "java/lang/invoke/VarHandle" ∧ (parseMethodDescriptor yX8_leastOf.desc).map (fun d => d.parameters.length) = some 1) := ⟨t_5 (i := 52) rfl rfl, t_s (i := 41) rfl rfl, t_1 (i := 12) rfl rfl, t_5 (i := 53) rfl rfl, by decide +kernel⟩
theorem mv_X8_least : Cond.instanceMethod yX8_least ∈ gU ∧ Cond.selects RX8 yX8_least yX8_least ∈ gU ∧ Cond.initialized RX8 ∈ gU ∧ Cond.code yX8_least cX8_least 2 (some .int) ∈ gU ∧ (yX8_least.cls = RX8 ∧ yX8_least.cls ≠ "java/lang/invoke/MethodHandle" ∧ yX8_least.cls ≠ "java/lang/invoke/VarHandle" ∧ (parseMethodDescriptor yX8_least.desc).map (fun d => d.parameters.length) = some 1) := ⟨t_5 (i := 47) rfl rfl, t_5 (i := 48) rfl rfl, t_1 (i := 12) rfl rfl, t_5 (i := 49) rfl rfl, by decide +kernel⟩
theorem mv_X8_topOf : Cond.instanceMethod yX8_topOf ∈ gU ∧ Cond.selects RX8 yX8_topOf yX8_topOf ∈ gU ∧ Cond.initialized RX8 ∈ gU ∧ Cond.code yX8_topOf cX8_topOf 6 (some .int) ∈ gU ∧ (yX8_topOf.cls = RX8 ∧ yX8_topOf.cls ≠ "java/lang/invoke/MethodHandle" ∧ yX8_topOf.cls ≠ "java/lang/invoke/VarHandle" ∧ (parseMethodDescriptor yX8_topOf.desc).map (fun d => d.parameters.length) = some 1) := ⟨t_5 (i := 63) rfl rfl, t_s (i := 42) rfl rfl, t_1 (i := 12) rfl rfl, t_5 (i := 64) rfl rfl, by decide +kernel⟩
theorem mv_X8_top : Cond.instanceMethod yX8_top ∈ gU ∧ Cond.selects RX8 yX8_top yX8_top ∈ gU ∧ Cond.initialized RX8 ∈ gU ∧ Cond.code yX8_top cX8_top 2 (some .int) ∈ gU ∧ (yX8_top.cls = RX8 ∧ yX8_top.cls ≠ "java/lang/invoke/MethodHandle" ∧ yX8_top.cls ≠ "java/lang/invoke/VarHandle" ∧ (parseMethodDescriptor yX8_top.desc).map (fun d => d.parameters.length) = some 1) := ⟨t_5 (i := 58) rfl rfl, t_5 (i := 59) rfl rfl, t_1 (i := 12) rfl rfl, t_5 (i := 60) rfl rfl, by decide +kernel⟩
theorem mv_X8_seen : Cond.instanceMethod yX8_seen ∈ gU ∧ Cond.selects RX8 yX8_seen yX8_seen ∈ gU ∧ Cond.initialized RX8 ∈ gU ∧ Cond.code yX8_seen cX8_seen 4 (some .int) ∈ gU ∧ (yX8_seen.cls = RX8 ∧ yX8_seen.cls ≠ "java/lang/invoke/MethodHandle" ∧ yX8_seen.cls ≠ "java/lang/invoke/VarHandle" ∧ (parseMethodDescriptor yX8_seen.desc).map (fun d => d.parameters.length) = some 3) := ⟨t_5 (i := 66) rfl rfl, t_5 (i := 67) rfl rfl, t_1 (i := 12) rfl rfl, t_5 (i := 68) rfl rfl, by decide +kernel⟩
theorem mv_X8_forget : Cond.instanceMethod yX8_forget ∈ gU ∧ Cond.selects RX8 yX8_forget yX8_forget ∈ gU ∧ Cond.initialized RX8 ∈ gU ∧ Cond.code yX8_forget cX8_forget 2 (some .int) ∈ gU ∧ (yX8_forget.cls = RX8 ∧ yX8_forget.cls ≠ "java/lang/invoke/MethodHandle" ∧ yX8_forget.cls ≠ "java/lang/invoke/VarHandle" ∧ (parseMethodDescriptor yX8_forget.desc).map (fun d => d.parameters.length) = some 0) := ⟨t_5 (i := 71) rfl rfl, t_5 (i := 72) rfl rfl, t_1 (i := 12) rfl rfl, t_5 (i := 73) rfl rfl, by decide +kernel⟩
theorem mv_X8_read : Cond.instanceMethod yX8_read ∈ gU ∧ Cond.selects RX8 yX8_read yX8_read ∈ gU ∧ Cond.initialized RX8 ∈ gU ∧ Cond.code yX8_read cX8_read 5 (some .int) ∈ gU ∧ (yX8_read.cls = RX8 ∧ yX8_read.cls ≠ "java/lang/invoke/MethodHandle" ∧ yX8_read.cls ≠ "java/lang/invoke/VarHandle" ∧ (parseMethodDescriptor yX8_read.desc).map (fun d => d.parameters.length) = some 1) := ⟨t_5 (i := 75) rfl rfl, t_5 (i := 76) rfl rfl, t_1 (i := 12) rfl rfl, t_5 (i := 77) rfl rfl, by decide +kernel⟩
theorem mv_X8_isSeen : Cond.instanceMethod yX8_isSeen ∈ gU ∧ Cond.selects RX8 yX8_isSeen yX8_isSeen ∈ gU ∧ Cond.initialized RX8 ∈ gU ∧ Cond.code yX8_isSeen cX8_isSeen 5 (some .boolean) ∈ gU ∧ (yX8_isSeen.cls = RX8 ∧ yX8_isSeen.cls ≠ "java/lang/invoke/MethodHandle" ∧ yX8_isSeen.cls ≠ "java/lang/invoke/VarHandle" ∧ (parseMethodDescriptor yX8_isSeen.desc).map (fun d => d.parameters.length) = some 0) := ⟨t_5 (i := 89) rfl rfl, t_s (i := 44) rfl rfl, t_1 (i := 12) rfl rfl, t_5 (i := 90) rfl rfl, by decide +kernel⟩
theorem mv_X8_hadOf : Cond.instanceMethod yX8_hadOf ∈ gU ∧ Cond.selects RX8 yX8_hadOf yX8_hadOf ∈ gU ∧ Cond.initialized RX8 ∈ gU ∧ Cond.code yX8_hadOf cX8_hadOf 5 (some .int) ∈ gU ∧ (yX8_hadOf.cls = RX8 ∧ yX8_hadOf.cls ≠ "java/lang/invoke/MethodHandle" ∧ yX8_hadOf.cls ≠ "java/lang/invoke/VarHandle" ∧ (parseMethodDescriptor yX8_hadOf.desc).map (fun d => d.parameters.length) = some 1) := ⟨t_5 (i := 85) rfl rfl, t_s (i := 43) rfl rfl, t_1 (i := 12) rfl rfl, t_5 (i := 86) rfl rfl, by decide +kernel⟩
theorem mv_X8_had : Cond.instanceMethod yX8_had ∈ gU ∧ Cond.selects RX8 yX8_had yX8_had ∈ gU ∧ Cond.initialized RX8 ∈ gU ∧ Cond.code yX8_had cX8_had 2 (some .int) ∈ gU ∧ (yX8_had.cls = RX8 ∧ yX8_had.cls ≠ "java/lang/invoke/MethodHandle" ∧ yX8_had.cls ≠ "java/lang/invoke/VarHandle" ∧ (parseMethodDescriptor yX8_had.desc).map (fun d => d.parameters.length) = some 1) := ⟨t_5 (i := 80) rfl rfl, t_5 (i := 81) rfl rfl, t_1 (i := 12) rfl rfl, t_5 (i := 82) rfl rfl, by decide +kernel⟩
theorem mv_X8_wasNow : Cond.instanceMethod yX8_wasNow ∈ gU ∧ Cond.selects RX8 yX8_wasNow yX8_wasNow ∈ gU ∧ Cond.initialized RX8 ∈ gU ∧ Cond.code yX8_wasNow cX8_wasNow 4 (some .int) ∈ gU ∧ (yX8_wasNow.cls = RX8 ∧ yX8_wasNow.cls ≠ "java/lang/invoke/MethodHandle" ∧ yX8_wasNow.cls ≠ "java/lang/invoke/VarHandle" ∧ (parseMethodDescriptor yX8_wasNow.desc).map (fun d => d.parameters.length) = some 0) := ⟨t_5 (i := 97) rfl rfl, t_s (i := 45) rfl rfl, t_1 (i := 12) rfl rfl, t_5 (i := 98) rfl rfl, by decide +kernel⟩
theorem mv_X8_was : Cond.instanceMethod yX8_was ∈ gU ∧ Cond.selects RX8 yX8_was yX8_was ∈ gU ∧ Cond.initialized RX8 ∈ gU ∧ Cond.code yX8_was cX8_was 1 (some .int) ∈ gU ∧ (yX8_was.cls = RX8 ∧ yX8_was.cls ≠ "java/lang/invoke/MethodHandle" ∧ yX8_was.cls ≠ "java/lang/invoke/VarHandle" ∧ (parseMethodDescriptor yX8_was.desc).map (fun d => d.parameters.length) = some 0) := ⟨t_5 (i := 92) rfl rfl, t_5 (i := 93) rfl rfl, t_1 (i := 12) rfl rfl, t_5 (i := 94) rfl rfl, by decide +kernel⟩
theorem mv_X8_askOf : Cond.instanceMethod yX8_askOf ∈ gU ∧ Cond.selects RX8 yX8_askOf yX8_askOf ∈ gU ∧ Cond.initialized RX8 ∈ gU ∧ Cond.code yX8_askOf cX8_askOf 9 (some .int) ∈ gU ∧ (yX8_askOf.cls = RX8 ∧ yX8_askOf.cls ≠ "java/lang/invoke/MethodHandle" ∧ yX8_askOf.cls ≠ "java/lang/invoke/VarHandle" ∧ (parseMethodDescriptor yX8_askOf.desc).map (fun d => d.parameters.length) = some 1) := ⟨t_5 (i := 105) rfl rfl, t_s (i := 46) rfl rfl, t_1 (i := 12) rfl rfl, t_5 (i := 106) rfl rfl, by decide +kernel⟩
theorem mv_X8_ask : Cond.instanceMethod yX8_ask ∈ gU ∧ Cond.selects RX8 yX8_ask yX8_ask ∈ gU ∧ Cond.initialized RX8 ∈ gU ∧ Cond.code yX8_ask cX8_ask 2 (some .int) ∈ gU ∧ (yX8_ask.cls = RX8 ∧ yX8_ask.cls ≠ "java/lang/invoke/MethodHandle" ∧ yX8_ask.cls ≠ "java/lang/invoke/VarHandle" ∧ (parseMethodDescriptor yX8_ask.desc).map (fun d => d.parameters.length) = some 1) := ⟨t_5 (i := 100) rfl rfl, t_5 (i := 101) rfl rfl, t_1 (i := 12) rfl rfl, t_5 (i := 102) rfl rfl, by decide +kernel⟩
theorem mv_X8_maybeOf : Cond.instanceMethod yX8_maybeOf ∈ gU ∧ Cond.selects RX8 yX8_maybeOf yX8_maybeOf ∈ gU ∧ Cond.initialized RX8 ∈ gU ∧ Cond.code yX8_maybeOf cX8_maybeOf 12 (some .long) ∈ gU ∧ (yX8_maybeOf.cls = RX8 ∧ yX8_maybeOf.cls ≠ "java/lang/invoke/MethodHandle" ∧ yX8_maybeOf.cls ≠ "java/lang/invoke/VarHandle" ∧ (parseMethodDescriptor yX8_maybeOf.desc).map (fun d => d.parameters.length) = some 4) := ⟨t_5 (i := 114) rfl rfl, t_s (i := 47) rfl rfl, t_1 (i := 12) rfl rfl, t_5 (i := 115) rfl rfl, by decide +kernel⟩
theorem mv_X8_maybe : Cond.instanceMethod yX8_maybe ∈ gU ∧ Cond.selects RX8 yX8_maybe yX8_maybe ∈ gU ∧ Cond.initialized RX8 ∈ gU ∧ Cond.code yX8_maybe cX8_maybe 5 (some .long) ∈ gU ∧ (yX8_maybe.cls = RX8 ∧ yX8_maybe.cls ≠ "java/lang/invoke/MethodHandle" ∧ yX8_maybe.cls ≠ "java/lang/invoke/VarHandle" ∧ (parseMethodDescriptor yX8_maybe.desc).map (fun d => d.parameters.length) = some 4) := ⟨t_5 (i := 108) rfl rfl, t_5 (i := 109) rfl rfl, t_1 (i := 12) rfl rfl, t_5 (i := 110) rfl rfl, by decide +kernel⟩
theorem mv_X8_lot : Cond.instanceMethod yX8_lot ∈ gU ∧ Cond.selects RX8 yX8_lot yX8_lot ∈ gU ∧ Cond.initialized RX8 ∈ gU ∧ Cond.code yX8_lot cX8_lot 2 (some .int) ∈ gU ∧ (yX8_lot.cls = RX8 ∧ yX8_lot.cls ≠ "java/lang/invoke/MethodHandle" ∧ yX8_lot.cls ≠ "java/lang/invoke/VarHandle" ∧ (parseMethodDescriptor yX8_lot.desc).map (fun d => d.parameters.length) = some 1) := ⟨t_5 (i := 133) rfl rfl, t_s (i := 49) rfl rfl, t_1 (i := 12) rfl rfl, t_5 (i := 134) rfl rfl, by decide +kernel⟩
theorem mv_X8_depotOf : Cond.instanceMethod yX8_depotOf ∈ gU ∧ Cond.selects RX8 yX8_depotOf yX8_depotOf ∈ gU ∧ Cond.initialized RX8 ∈ gU ∧ Cond.code yX8_depotOf cX8_depotOf 5 (some .int) ∈ gU ∧ (yX8_depotOf.cls = RX8 ∧ yX8_depotOf.cls ≠ "java/lang/invoke/MethodHandle" ∧ yX8_depotOf.cls ≠ "java/lang/invoke/VarHandle" ∧ (parseMethodDescriptor yX8_depotOf.desc).map (fun d => d.parameters.length) = some 3) := ⟨t_5 (i := 129) rfl rfl, t_s (i := 48) rfl rfl, t_1 (i := 12) rfl rfl, t_5 (i := 130) rfl rfl, by decide +kernel⟩
theorem mv_X8_depot : Cond.instanceMethod yX8_depot ∈ gU ∧ Cond.selects RX8 yX8_depot yX8_depot ∈ gU ∧ Cond.initialized RX8 ∈ gU ∧ Cond.code yX8_depot cX8_depot 4 (some .int) ∈ gU ∧ (yX8_depot.cls = RX8 ∧ yX8_depot.cls ≠ "java/lang/invoke/MethodHandle" ∧ yX8_depot.cls ≠ "java/lang/invoke/VarHandle" ∧ (parseMethodDescriptor yX8_depot.desc).map (fun d => d.parameters.length) = some 3) := ⟨t_5 (i := 124) rfl rfl, t_5 (i := 125) rfl rfl, t_1 (i := 12) rfl rfl, t_5 (i := 126) rfl rfl, by decide +kernel⟩
theorem mv_X8_write : Cond.instanceMethod yX8_write ∈ gU ∧ Cond.selects RX8 yX8_write yX8_write ∈ gU ∧ Cond.initialized RX8 ∈ gU ∧ Cond.code yX8_write cX8_write 5 (some .int) ∈ gU ∧ (yX8_write.cls = RX8 ∧ yX8_write.cls ≠ "java/lang/invoke/MethodHandle" ∧ yX8_write.cls ≠ "java/lang/invoke/VarHandle" ∧ (parseMethodDescriptor yX8_write.desc).map (fun d => d.parameters.length) = some 2) := ⟨t_5 (i := 137) rfl rfl, t_5 (i := 138) rfl rfl, t_1 (i := 12) rfl rfl, t_5 (i := 139) rfl rfl, by decide +kernel⟩
theorem mv_X8_count : Cond.instanceMethod yX8_count ∈ gU ∧ Cond.selects RX8 yX8_count yX8_count ∈ gU ∧ Cond.initialized RX8 ∈ gU ∧ Cond.code yX8_count cX8_count 2 (some .int) ∈ gU ∧ (yX8_count.cls = RX8 ∧ yX8_count.cls ≠ "java/lang/invoke/MethodHandle" ∧ yX8_count.cls ≠ "java/lang/invoke/VarHandle" ∧ (parseMethodDescriptor yX8_count.desc).map (fun d => d.parameters.length) = some 1) := ⟨t_5 (i := 144) rfl rfl, t_5 (i := 145) rfl rfl, t_1 (i := 12) rfl rfl, t_5 (i := 146) rfl rfl, by decide +kernel⟩
theorem mv_X8_tellsRider : Cond.instanceMethod yX8_tellsRider ∈ gU ∧ Cond.selects RX8 yX8_tellsRider yX8_tellsRider ∈ gU ∧ Cond.initialized RX8 ∈ gU ∧ Cond.code yX8_tellsRider cX8_tellsRider 7 (some .long) ∈ gU ∧ (yX8_tellsRider.cls = RX8 ∧ yX8_tellsRider.cls ≠ "java/lang/invoke/MethodHandle" ∧ yX8_tellsRider.cls ≠ "java/lang/invoke/VarHandle" ∧ (parseMethodDescriptor yX8_tellsRider.desc).map (fun d => d.parameters.length) = some 2) := ⟨t_5 (i := 156) rfl rfl, t_s (i := 50) rfl rfl, t_1 (i := 12) rfl rfl, t_5 (i := 157) rfl rfl, by decide +kernel⟩
theorem mv_X8_tellsDay : Cond.instanceMethod yX8_tellsDay ∈ gU ∧ Cond.selects RX8 yX8_tellsDay yX8_tellsDay ∈ gU ∧ Cond.initialized RX8 ∈ gU ∧ Cond.code yX8_tellsDay cX8_tellsDay 6 (some .long) ∈ gU ∧ (yX8_tellsDay.cls = RX8 ∧ yX8_tellsDay.cls ≠ "java/lang/invoke/MethodHandle" ∧ yX8_tellsDay.cls ≠ "java/lang/invoke/VarHandle" ∧ (parseMethodDescriptor yX8_tellsDay.desc).map (fun d => d.parameters.length) = some 2) := ⟨t_5 (i := 160) rfl rfl, t_s (i := 51) rfl rfl, t_1 (i := 12) rfl rfl, t_5 (i := 161) rfl rfl, by decide +kernel⟩
theorem mv_X8_digest : Cond.instanceMethod yX8_digest ∈ gU ∧ Cond.selects RX8 yX8_digest yX8_digest ∈ gU ∧ Cond.initialized RX8 ∈ gU ∧ Cond.code yX8_digest cX8_digest 4 (some .long) ∈ gU ∧ (yX8_digest.cls = RX8 ∧ yX8_digest.cls ≠ "java/lang/invoke/MethodHandle" ∧ yX8_digest.cls ≠ "java/lang/invoke/VarHandle" ∧ (parseMethodDescriptor yX8_digest.desc).map (fun d => d.parameters.length) = some 0) := ⟨t_5 (i := 148) rfl rfl, t_5 (i := 149) rfl rfl, t_1 (i := 12) rfl rfl, t_5 (i := 150) rfl rfl, by decide +kernel⟩
theorem ms_J6_bitCount_0f7a4 : Cond.static yJ6_bitCount_0f7a4 ∈ gU ∧ Cond.initialized yJ6_bitCount_0f7a4.cls ∈ gU ∧ Cond.code yJ6_bitCount_0f7a4 cJ6_bitCount_0f7a4 1 (some .int) ∈ gU ∧ (yJ6_bitCount_0f7a4.cls ≠ "java/lang/invoke/MethodHandle" ∧ yJ6_bitCount_0f7a4.cls ≠ "java/lang/invoke/VarHandle" ∧ (parseMethodDescriptor yJ6_bitCount_0f7a4.desc).map (fun d => d.parameters.length) = some 1) := ⟨t_3 (i := 11) rfl rfl, t_1 (i := 13) rfl rfl, t_3 (i := 12) rfl rfl, by decide +kernel⟩
theorem ms_J9_max_7cf53 : Cond.static yJ9_max_7cf53 ∈ gU ∧ Cond.initialized yJ9_max_7cf53.cls ∈ gU ∧ Cond.code yJ9_max_7cf53 cJ9_max_7cf53 2 (some .int) ∈ gU ∧ (yJ9_max_7cf53.cls ≠ "java/lang/invoke/MethodHandle" ∧ yJ9_max_7cf53.cls ≠ "java/lang/invoke/VarHandle" ∧ (parseMethodDescriptor yJ9_max_7cf53.desc).map (fun d => d.parameters.length) = some 2) := ⟨t_1 (i := 30) rfl rfl, t_1 (i := 3) rfl rfl, t_1 (i := 31) rfl rfl, by decide +kernel⟩
theorem ms_J9_min_7cf53 : Cond.static yJ9_min_7cf53 ∈ gU ∧ Cond.initialized yJ9_min_7cf53.cls ∈ gU ∧ Cond.code yJ9_min_7cf53 cJ9_min_7cf53 2 (some .int) ∈ gU ∧ (yJ9_min_7cf53.cls ≠ "java/lang/invoke/MethodHandle" ∧ yJ9_min_7cf53.cls ≠ "java/lang/invoke/VarHandle" ∧ (parseMethodDescriptor yJ9_min_7cf53.desc).map (fun d => d.parameters.length) = some 2) := ⟨t_2 (i := 200) rfl rfl, t_1 (i := 3) rfl rfl, t_2 (i := 201) rfl rfl, by decide +kernel⟩
theorem ms_J7_fill_53178 : Cond.static yJ7_fill_53178 ∈ gU ∧ Cond.initialized yJ7_fill_53178.cls ∈ gU ∧ Cond.code yJ7_fill_53178 cJ7_fill_53178 4 (none) ∈ gU ∧ (yJ7_fill_53178.cls ≠ "java/lang/invoke/MethodHandle" ∧ yJ7_fill_53178.cls ≠ "java/lang/invoke/VarHandle" ∧ (parseMethodDescriptor yJ7_fill_53178.desc).map (fun d => d.parameters.length) = some 2) := ⟨t_2 (i := 23) rfl rfl, t_1 (i := 10) rfl rfl, t_2 (i := 24) rfl rfl, by decide +kernel⟩
theorem lay_X0 : ∀ k, k < 2 → u_lay RX0 TX0 k ∈ gU := fun k hk => match k, hk with
  | 0, _ => t_1 (i := 60) rfl rfl
  | 1, _ => t_1 (i := 62) rfl rfl
  | k + 2, h => absurd h (by omega)
theorem kc_X0 : vwCl[0]? = some (RX0, TX0, 2) ∧ (∀ w ∈ u_ws RX0 TX0 2, w ∈ gU) ∧ (∀ k, k < 2 → parseFieldDescriptor (TX0 k).2.2.1 = some (tyX0 k)) ∧ ∀ a, a < 2 → ∀ b, b < 2 → a ≠ b → (TX0 a).2.1 ≠ (TX0 b).2.1 := ⟨rfl, fun w hw => by obtain ⟨k, hk, rfl⟩ := List.mem_map.mp hw; exact lay_X0 k (List.mem_range.mp hk), tyX0_ok, nmX0⟩
theorem lay_X1 : ∀ k, k < 16 → u_lay RX1 TX1 k ∈ gU := fun k hk => match k, hk with
  | 0, _ => t_1 (i := 160) rfl rfl
  | 1, _ => t_1 (i := 162) rfl rfl
  | 2, _ => t_1 (i := 164) rfl rfl
  | 3, _ => t_1 (i := 166) rfl rfl
  | 4, _ => t_1 (i := 168) rfl rfl
  | 5, _ => t_1 (i := 170) rfl rfl
  | 6, _ => t_1 (i := 172) rfl rfl
  | 7, _ => t_1 (i := 174) rfl rfl
  | 8, _ => t_1 (i := 176) rfl rfl
  | 9, _ => t_1 (i := 178) rfl rfl
  | 10, _ => t_1 (i := 180) rfl rfl
  | 11, _ => t_1 (i := 182) rfl rfl
  | 12, _ => t_1 (i := 184) rfl rfl
  | 13, _ => t_1 (i := 186) rfl rfl
  | 14, _ => t_1 (i := 188) rfl rfl
  | 15, _ => t_1 (i := 190) rfl rfl
  | k + 16, h => absurd h (by omega)
theorem kc_X1 : vwCl[1]? = some (RX1, TX1, 16) ∧ (∀ w ∈ u_ws RX1 TX1 16, w ∈ gU) ∧ (∀ k, k < 16 → parseFieldDescriptor (TX1 k).2.2.1 = some (tyX1 k)) ∧ ∀ a, a < 16 → ∀ b, b < 16 → a ≠ b → (TX1 a).2.1 ≠ (TX1 b).2.1 := ⟨rfl, fun w hw => by obtain ⟨k, hk, rfl⟩ := List.mem_map.mp hw; exact lay_X1 k (List.mem_range.mp hk), tyX1_ok, nmX1⟩
theorem lay_X2 : ∀ k, k < 3 → u_lay RX2 TX2 k ∈ gU := fun k hk => match k, hk with
  | 0, _ => t_2 (i := 6) rfl rfl
  | 1, _ => t_2 (i := 8) rfl rfl
  | 2, _ => t_2 (i := 10) rfl rfl
  | k + 3, h => absurd h (by omega)
theorem kc_X2 : vwCl[2]? = some (RX2, TX2, 3) ∧ (∀ w ∈ u_ws RX2 TX2 3, w ∈ gU) ∧ (∀ k, k < 3 → parseFieldDescriptor (TX2 k).2.2.1 = some (tyX2 k)) ∧ ∀ a, a < 3 → ∀ b, b < 3 → a ≠ b → (TX2 a).2.1 ≠ (TX2 b).2.1 := ⟨rfl, fun w hw => by obtain ⟨k, hk, rfl⟩ := List.mem_map.mp hw; exact lay_X2 k (List.mem_range.mp hk), tyX2_ok, nmX2⟩
theorem lay_X3 : ∀ k, k < 4 → u_lay RX3 TX3 k ∈ gU := fun k hk => match k, hk with
  | 0, _ => t_1 (i := 224) rfl rfl
  | 1, _ => t_1 (i := 226) rfl rfl
  | 2, _ => t_1 (i := 228) rfl rfl
  | 3, _ => t_1 (i := 230) rfl rfl
  | k + 4, h => absurd h (by omega)
theorem kc_X3 : vwCl[3]? = some (RX3, TX3, 4) ∧ (∀ w ∈ u_ws RX3 TX3 4, w ∈ gU) ∧ (∀ k, k < 4 → parseFieldDescriptor (TX3 k).2.2.1 = some (tyX3 k)) ∧ ∀ a, a < 4 → ∀ b, b < 4 → a ≠ b → (TX3 a).2.1 ≠ (TX3 b).2.1 := ⟨rfl, fun w hw => by obtain ⟨k, hk, rfl⟩ := List.mem_map.mp hw; exact lay_X3 k (List.mem_range.mp hk), tyX3_ok, nmX3⟩
theorem lay_X4 : ∀ k, k < 4 → u_lay RX4 TX4 k ∈ gU := fun k hk => match k, hk with
  | 0, _ => t_1 (i := 203) rfl rfl
  | 1, _ => t_1 (i := 205) rfl rfl
  | 2, _ => t_1 (i := 207) rfl rfl
  | 3, _ => t_1 (i := 209) rfl rfl
  | k + 4, h => absurd h (by omega)
theorem kc_X4 : vwCl[4]? = some (RX4, TX4, 4) ∧ (∀ w ∈ u_ws RX4 TX4 4, w ∈ gU) ∧ (∀ k, k < 4 → parseFieldDescriptor (TX4 k).2.2.1 = some (tyX4 k)) ∧ ∀ a, a < 4 → ∀ b, b < 4 → a ≠ b → (TX4 a).2.1 ≠ (TX4 b).2.1 := ⟨rfl, fun w hw => by obtain ⟨k, hk, rfl⟩ := List.mem_map.mp hw; exact lay_X4 k (List.mem_range.mp hk), tyX4_ok, nmX4⟩
theorem lay_X5 : ∀ k, k < 2 → u_lay RX5 TX5 k ∈ gU := fun k hk => match k, hk with
  | 0, _ => t_1 (i := 37) rfl rfl
  | 1, _ => t_1 (i := 39) rfl rfl
  | k + 2, h => absurd h (by omega)
theorem kc_X5 : vwCl[5]? = some (RX5, TX5, 2) ∧ (∀ w ∈ u_ws RX5 TX5 2, w ∈ gU) ∧ (∀ k, k < 2 → parseFieldDescriptor (TX5 k).2.2.1 = some (tyX5 k)) ∧ ∀ a, a < 2 → ∀ b, b < 2 → a ≠ b → (TX5 a).2.1 ≠ (TX5 b).2.1 := ⟨rfl, fun w hw => by obtain ⟨k, hk, rfl⟩ := List.mem_map.mp hw; exact lay_X5 k (List.mem_range.mp hk), tyX5_ok, nmX5⟩
theorem lay_X6 : ∀ k, k < 12 → u_lay RX6 TX6 k ∈ gU := fun k hk => match k, hk with
  | 0, _ => t_1 (i := 99) rfl rfl
  | 1, _ => t_1 (i := 101) rfl rfl
  | 2, _ => t_1 (i := 103) rfl rfl
  | 3, _ => t_1 (i := 105) rfl rfl
  | 4, _ => t_1 (i := 107) rfl rfl
  | 5, _ => t_1 (i := 109) rfl rfl
  | 6, _ => t_1 (i := 111) rfl rfl
  | 7, _ => t_1 (i := 113) rfl rfl
  | 8, _ => t_1 (i := 115) rfl rfl
  | 9, _ => t_1 (i := 117) rfl rfl
  | 10, _ => t_1 (i := 119) rfl rfl
  | 11, _ => t_1 (i := 121) rfl rfl
  | k + 12, h => absurd h (by omega)
theorem kc_X6 : vwCl[6]? = some (RX6, TX6, 12) ∧ (∀ w ∈ u_ws RX6 TX6 12, w ∈ gU) ∧ (∀ k, k < 12 → parseFieldDescriptor (TX6 k).2.2.1 = some (tyX6 k)) ∧ ∀ a, a < 12 → ∀ b, b < 12 → a ≠ b → (TX6 a).2.1 ≠ (TX6 b).2.1 := ⟨rfl, fun w hw => by obtain ⟨k, hk, rfl⟩ := List.mem_map.mp hw; exact lay_X6 k (List.mem_range.mp hk), tyX6_ok, nmX6⟩
theorem lay_X7 : ∀ k, k < 10 → u_lay RX7 TX7 k ∈ gU := fun k hk => match k, hk with
  | 0, _ => t_2 (i := 116) rfl rfl
  | 1, _ => t_2 (i := 118) rfl rfl
  | 2, _ => t_2 (i := 120) rfl rfl
  | 3, _ => t_2 (i := 122) rfl rfl
  | 4, _ => t_2 (i := 124) rfl rfl
  | 5, _ => t_2 (i := 126) rfl rfl
  | 6, _ => t_2 (i := 128) rfl rfl
  | 7, _ => t_2 (i := 130) rfl rfl
  | 8, _ => t_2 (i := 132) rfl rfl
  | 9, _ => t_2 (i := 134) rfl rfl
  | k + 10, h => absurd h (by omega)
theorem kc_X7 : vwCl[7]? = some (RX7, TX7, 10) ∧ (∀ w ∈ u_ws RX7 TX7 10, w ∈ gU) ∧ (∀ k, k < 10 → parseFieldDescriptor (TX7 k).2.2.1 = some (tyX7 k)) ∧ ∀ a, a < 10 → ∀ b, b < 10 → a ≠ b → (TX7 a).2.1 ≠ (TX7 b).2.1 := ⟨rfl, fun w hw => by obtain ⟨k, hk, rfl⟩ := List.mem_map.mp hw; exact lay_X7 k (List.mem_range.mp hk), tyX7_ok, nmX7⟩
theorem lay_X8 : ∀ k, k < 30 → u_lay RX8 TX8 k ∈ gU := fun k hk => match k, hk with
  | 0, _ => t_4 (i := 0) rfl rfl
  | 1, _ => t_4 (i := 2) rfl rfl
  | 2, _ => t_4 (i := 4) rfl rfl
  | 3, _ => t_4 (i := 6) rfl rfl
  | 4, _ => t_4 (i := 8) rfl rfl
  | 5, _ => t_4 (i := 10) rfl rfl
  | 6, _ => t_4 (i := 12) rfl rfl
  | 7, _ => t_4 (i := 14) rfl rfl
  | 8, _ => t_4 (i := 16) rfl rfl
  | 9, _ => t_4 (i := 18) rfl rfl
  | 10, _ => t_4 (i := 20) rfl rfl
  | 11, _ => t_4 (i := 22) rfl rfl
  | 12, _ => t_4 (i := 24) rfl rfl
  | 13, _ => t_4 (i := 26) rfl rfl
  | 14, _ => t_4 (i := 28) rfl rfl
  | 15, _ => t_4 (i := 30) rfl rfl
  | 16, _ => t_4 (i := 32) rfl rfl
  | 17, _ => t_4 (i := 34) rfl rfl
  | 18, _ => t_4 (i := 36) rfl rfl
  | 19, _ => t_4 (i := 38) rfl rfl
  | 20, _ => t_4 (i := 40) rfl rfl
  | 21, _ => t_4 (i := 42) rfl rfl
  | 22, _ => t_4 (i := 44) rfl rfl
  | 23, _ => t_4 (i := 46) rfl rfl
  | 24, _ => t_4 (i := 48) rfl rfl
  | 25, _ => t_4 (i := 50) rfl rfl
  | 26, _ => t_4 (i := 52) rfl rfl
  | 27, _ => t_4 (i := 54) rfl rfl
  | 28, _ => t_4 (i := 56) rfl rfl
  | 29, _ => t_4 (i := 58) rfl rfl
  | k + 30, h => absurd h (by omega)
theorem kc_X8 : vwCl[8]? = some (RX8, TX8, 30) ∧ (∀ w ∈ u_ws RX8 TX8 30, w ∈ gU) ∧ (∀ k, k < 30 → parseFieldDescriptor (TX8 k).2.2.1 = some (tyX8 k)) ∧ ∀ a, a < 30 → ∀ b, b < 30 → a ≠ b → (TX8 a).2.1 ≠ (TX8 b).2.1 := ⟨rfl, fun w hw => by obtain ⟨k, hk, rfl⟩ := List.mem_map.mp hw; exact lay_X8 k (List.mem_range.mp hk), tyX8_ok, nmX8⟩
theorem w_nat : Cond.native arraycopyName ∈ gU := t_2 (i := 66) rfl rfl
theorem w_sta : Cond.static arraycopyName ∈ gU := t_2 (i := 65) rfl rfl
theorem w_sys : Cond.initialized "java/lang/System" ∈ gU := t_1 (i := 11) rfl rfl
end
section
/-! THE G LAYER: the system's cells stand at labels (a layout, fixed once the constructors are through); their numbers are a table v; a goal gx_G is: from pc, locals lv, stack st and table v the machine comes to Q. -/
abbrev gV : Type := (Nat → Nat → Int32) × (Nat → Nat → Int64)
abbrev gk : Type := (Nat × List (Option Nat)) ⊕ (Nat ⊕ (Nat ⊕ (Nat × List Nat)))
abbrev gk_o (ci : Nat) (tm : List (Option Nat)) : gk := .inl (ci, tm)
abbrev gk_i (n : Nat) : gk := .inr (.inl n)
abbrev gk_l (n : Nat) : gk := .inr (.inr (.inl n))
abbrev gk_r (t : Nat) (ls : List Nat) : gk := .inr (.inr (.inr (t, ls)))
def gx_f (σ : Nat → Nat) (g : Nat → Int32) : Nat → List (Option Nat) → List Value
  | _, [] => []
  | j, none :: t => .int (g j) :: gx_f σ g (j + 1) t
  | j, some r :: t => .ref (σ r) :: gx_f σ g (j + 1) t
def gx_e (σ : Nat → Nat) (ty : Nat → ClassId) (k : gk) (q : Nat) (v : gV) : va_E := match k with
  | .inl (ci, tm) => .inr (ci, gx_f σ (v.1 q) 0 tm)
  | .inr (.inl n) => .inl (ty 0, n, .inl (v.1 q))
  | .inr (.inr (.inl n)) => .inl (ty 1, n, .inr (.inl (v.2 q)))
  | .inr (.inr (.inr (t, ls))) => .inl (ty t, ls.length, .inr (.inr (.inr (.inr (fun i => (ls[i]?).map σ)))))
def gx_w (lay : List gk) (σ : Nat → Nat) (ty : Nat → ClassId) (v : gV) : va_W := lay.mapIdx (fun q k => (σ q, gx_e σ ty k q v))
def sA (v : gV) (q : Nat) (f : Nat → Int32) : gV := (fun a => if a = q then f else v.1 a, v.2)
def sI (v : gV) (q j : Nat) (x : Int32) : gV := sA v q (upd (v.1 q) j x)
def sL (v : gV) (q j : Nat) (x : Int64) : gV := (v.1, fun a => if a = q then vp_updL (v.2 q) j x else v.2 a)
theorem gx_fI {σ : Nat → Nat} {g : Nat → Int32} : ∀ (tm : List (Option Nat)) (i j : Nat), tm[j]? = some none → (gx_f σ g i tm)[j]? = some (.int (g (i + j)))
  | [], _, _, h => by simp at h
  | none :: t, i, 0, _ => by simp [gx_f]
  | some r :: t, i, 0, h => by simp at h
  | none :: t, i, j + 1, h => by
    rw [show i + (j + 1) = i + 1 + j by omega, gx_f, List.getElem?_cons_succ]
    exact gx_fI t (i + 1) j (by simpa using h)
  | some r :: t, i, j + 1, h => by
    rw [show i + (j + 1) = i + 1 + j by omega, gx_f, List.getElem?_cons_succ]
    exact gx_fI t (i + 1) j (by simpa using h)
theorem gx_fR {σ : Nat → Nat} {g : Nat → Int32} {r : Nat} : ∀ (tm : List (Option Nat)) (i j : Nat), tm[j]? = some (some r) → (gx_f σ g i tm)[j]? = some (.ref (σ r))
  | [], _, _, h => by simp at h
  | none :: t, i, 0, h => by simp at h
  | some r' :: t, i, 0, h => by
    have e : r' = r := by simpa using h
    simp [gx_f, e]
  | none :: t, i, j + 1, h => by
    rw [gx_f, List.getElem?_cons_succ]
    exact gx_fR t (i + 1) j (by simpa using h)
  | some r' :: t, i, j + 1, h => by
    rw [gx_f, List.getElem?_cons_succ]
    exact gx_fR t (i + 1) j (by simpa using h)
theorem gx_fE {σ : Nat → Nat} {g g' : Nat → Int32} : ∀ (tm : List (Option Nat)) (i : Nat), (∀ k, i ≤ k → g' k = g k) → gx_f σ g' i tm = gx_f σ g i tm
  | [], _, _ => rfl
  | none :: t, i, h => by rw [gx_f, gx_f, h i (Nat.le_refl i), gx_fE t (i + 1) (fun k hk => h k (by omega))]
  | some r :: t, i, h => by rw [gx_f, gx_f, gx_fE t (i + 1) (fun k hk => h k (by omega))]
theorem gx_fS {σ : Nat → Nat} {g : Nat → Int32} {x : Int32} : ∀ (tm : List (Option Nat)) (i j : Nat), tm[j]? = some none → (gx_f σ g i tm).set j (.int x) = gx_f σ (upd g (i + j) x) i tm
  | [], _, _, h => by simp at h
  | some r :: t, i, 0, h => by simp at h
  | none :: t, i, 0, _ => by
    rw [gx_f, gx_f, List.set_cons_zero, gx_fE t (i + 1) (g' := upd g (i + 0) x) (g := g) (fun k hk => by unfold upd; rw [if_neg (by omega)])]
    unfold upd
    rw [if_pos (Nat.add_zero i).symm]
  | none :: t, i, j + 1, h => by
    rw [gx_f, gx_f, List.set_cons_succ, gx_fS t (i + 1) j (by simpa using h), show i + 1 + j = i + (j + 1) by omega]
    unfold upd
    rw [if_neg (by omega)]
  | some r :: t, i, j + 1, h => by
    rw [gx_f, gx_f, List.set_cons_succ, gx_fS t (i + 1) j (by simpa using h), show i + 1 + j = i + (j + 1) by omega]
theorem gx_fL {σ : Nat → Nat} {g : Nat → Int32} : ∀ (tm : List (Option Nat)) (i : Nat), (gx_f σ g i tm).length = tm.length
  | [], _ => rfl
  | none :: t, i => by rw [gx_f, List.length_cons, List.length_cons, gx_fL t]
  | some r :: t, i => by rw [gx_f, List.length_cons, List.length_cons, gx_fL t]
theorem gx_wA {lay : List gk} {σ : Nat → Nat} {ty : Nat → ClassId} {v : gV} {q : Nat} {k : gk} (h : lay[q]? = some k) : (gx_w lay σ ty v)[q]? = some (σ q, gx_e σ ty k q v) := by
  unfold gx_w
  rw [List.getElem?_mapIdx, h]
  rfl
theorem gx_wS {lay : List gk} {σ : Nat → Nat} {ty : Nat → ClassId} {v v' : gV} {q : Nat} {k : gk} (h : lay[q]? = some k) (h1 : ∀ a, a ≠ q → v'.1 a = v.1 a) (h2 : ∀ a, a ≠ q → v'.2 a = v.2 a) : (gx_w lay σ ty v).set q (σ q, gx_e σ ty k q v') = gx_w lay σ ty v' := by
  apply List.ext_getElem?
  intro i
  by_cases hi : i = q
  · subst hi
    have hl : i < (gx_w lay σ ty v).length := by
      unfold gx_w
      rw [List.length_mapIdx]
      exact (List.getElem?_eq_some_iff.mp h).1
    rw [List.getElem?_set_self hl, gx_wA h]
  · rw [List.getElem?_set_ne (fun e => hi e.symm)]
    unfold gx_w
    rw [List.getElem?_mapIdx, List.getElem?_mapIdx]
    cases lay[i]? with
    | none => rfl
    | some k' =>
      have e : gx_e σ ty k' i v = gx_e σ ty k' i v' := by
        unfold gx_e
        rw [h1 i hi, h2 i hi]
      show some (σ i, gx_e σ ty k' i v) = some (σ i, gx_e σ ty k' i v')
      rw [e]
theorem gx_D {lay : List gk} {σ : Nat → Nat} {ty : Nat → ClassId} {A : Nat → Prop} {v v' : gV} (h : va_D A (gx_w lay σ ty v)) : va_D A (gx_w lay σ ty v') := by
  have key : ∀ (k : Nat) (q : Nat × va_E), (gx_w lay σ ty v')[k]? = some q → ∃ q' : Nat × va_E, (gx_w lay σ ty v)[k]? = some q' ∧ q'.1 = q.1 := by
    intro k q hq
    unfold gx_w at hq ⊢
    rw [List.getElem?_mapIdx] at hq ⊢
    cases hk : lay[k]? with
    | none => rw [hk] at hq; simp at hq
    | some g =>
      rw [hk] at hq
      have e : (σ k, gx_e σ ty g k v') = q := by simpa using hq
      exact ⟨(σ k, gx_e σ ty g k v), rfl, by rw [← e]⟩
  refine ⟨fun i j x y hx hy hxy => ?_, fun k q hq => ?_⟩
  · obtain ⟨x', h1, h2⟩ := key i x hx
    obtain ⟨y', h3, h4⟩ := key j y hy
    exact h.1 i j x' y' h1 h3 (by rw [h2, h4]; exact hxy)
  · obtain ⟨q', h1, h2⟩ := key k q hq
    rw [← h2]
    exact h.2 k q' h1
abbrev gC : Type := Program × Launch × Env × Room × State × MethodId × Array Value × List Frame × Method × Code
abbrev gO : Type := (Nat → Nat) × (Nat → ClassId) × va_G × (Nat → Prop)
abbrev gx_tys (ty : Nat → ClassId) : List (ClassId × FieldType) := [(ty 0, .int), (ty 1, .long), (ty 2, .object RX5), (ty 3, .object RX2), (ty 4, .object RX0), (ty 5, .array .int)]
def gx_K (D : va_G) (ty : Nat → ClassId) (U : State) : Prop := va_K D vwCl (gx_tys ty) U ∧ va_Nw (.methodLinkNest RX3 21 yX7_isOutside RX7) U
theorem gx_K.warm {D : va_G} {ty : Nat → ClassId} {s U : State} (h : gx_K D ty s) (hW : s.WarmedH U.vm) : gx_K D ty U := ⟨va_K.moved hW.alike h.1, va_Nw.warmM hW h.2⟩
theorem gx_K.calling {D : va_G} {ty : Nat → ClassId} {U : State} (h : gx_K D ty U) (g : JFrame) (mk : MethodId) (a : Array Value) : gx_K D ty (U.calling g mk a) := ⟨va_K.moved (u := U) (U := U.calling g mk a) (Vm.Alike.refl U.vm) h.1, va_Nw.same rfl (u := U) (U := U.calling g mk a) rfl h.2⟩
def gx_X (Γ : gC) (Ω : gO) (cc : ByteArray) (own : String) (nL : Nat) (ret : Option FieldType) : Prop :=
  Γ.1.tables.exec = Jvm.exec ∧ Γ.2.2.2.2.2.2.2.2.2.code = cc ∧ Γ.2.2.2.2.2.2.2.2.2.maxLocals = nL ∧ Γ.2.2.2.2.1.vm.findClass own = some Γ.2.2.2.2.2.1.cls ∧ (∀ w ∈ gU, w.before Γ.2.2.2.2.2.2.1 Γ.2.2.2.2.1 = true) ∧ gx_K Ω.2.2.1 Ω.2.1 Γ.2.2.2.2.1 ∧ Γ.2.2.2.2.2.2.2.2.1.sig.returnType = ret ∧ Γ.2.2.2.2.2.2.2.2.1.locks = false
abbrev gx_W (Γ : gC) (H : Heap) (locs : List Loc) (Q : State → Prop) (g : JFrame) : Prop := W Γ.1 Γ.2.1 Γ.2.2.1 Γ.2.2.2.1 Γ.2.2.2.2.1 Γ.2.2.2.2.2.1 Γ.2.2.2.2.2.2.1 Γ.2.2.2.2.2.2.2.1 Γ.2.2.2.2.2.2.2.2.1 Γ.2.2.2.2.2.2.2.2.2 H locs 0 0 Q g
def gx_G (Γ : gC) (Ω : gO) (lay : List gk) (Q : State → Prop) (nL : Nat) (v : gV) (pc : Nat) (lv : List (Nat × Value)) (st : List Value) : Prop :=
  ∀ (H : Heap) (locs : List Loc) (ls : Array Slot), va_P Ω.2.2.1 vwCl (gx_w lay Ω.1 Ω.2.1 v) H → va_D Ω.2.2.2 (gx_w lay Ω.1 Ω.2.1 v) → va_S Ω.2.2.2 Γ.2.2.2.2.1.heap H locs → lv_has ls nL lv → gx_W Γ H locs Q (F0 Γ.2.2.2.2.2.1 pc ls st)
def gx_Qc (Ω : gO) (lay : List gk) (rv : Option Value) (v' : gV) : Array Value → State → Outcome → State → Prop := fun _ st oc t => oc = .returned rv ∧ va_P Ω.2.2.1 vwCl (gx_w lay Ω.1 Ω.2.1 v') t.heap ∧ va_F Ω.2.2.2 st t
abbrev gx_Q (Γ : gC) (Ω : gO) (lay : List gk) (rv : Option Value) (v' : gV) : State → Prop := MQ Γ.2.2.2.2.2.2.2.1 (gx_Qc Ω lay rv v') Γ.2.2.2.2.2.2.1 Γ.2.2.2.2.1 0 0 Ω.2.2.2
abbrev gx_R (d : Nat) : Room := { frames := d, cells := 0, slots := 0, locals := 40 * d }
def gx_Pc (Ω : gO) (lay : List gk) (av : List Value) (v : gV) : Array Value → State → Prop := va_Pc av (fun U => va_P Ω.2.2.1 vwCl (gx_w lay Ω.1 Ω.2.1 v) U.heap ∧ va_D Ω.2.2.2 (gx_w lay Ω.1 Ω.2.1 v) ∧ gx_K Ω.2.2.1 Ω.2.1 U)
/-- a method's contract over a layout: started with av on v it answers rv and leaves v' -/
def gx_M (l : Launch) (Ω : gO) (lay : List gk) (y : MethodName) (cc : ByteArray) (maxL : Nat) (ret : Option FieldType) (d : Nat) (av : List Value) (v : gV) (rv : Option Value) (v' : gV) : Prop :=
  Met l y (.code y cc maxL ret :: gU) (gx_R d) (gx_Pc Ω lay av v) (gx_Qc Ω lay rv v') 0 0 Ω.2.2.2
theorem gx_start {l : Launch} {Ω : gO} {lay : List gk} {y : MethodName} {cc : ByteArray} {maxL : Nat} {ret : Option FieldType} {d : Nat} {av : List Value} {v : gV} {rv : Option Value} {v' : gV} {lv : List (Nat × Value)} (hy : plainFor y = true) (hlen : (lg_sl av).length ≤ maxL) (hlv : lv_args 0 av = lv)
    (body : ∀ Γ : gC, Γ.2.1 = l → Γ.2.2.2.1 = gx_R d → gx_X Γ Ω cc y.cls maxL ret → gx_G Γ Ω lay (gx_Q Γ Ω lay rv v') maxL v 0 lv []) : gx_M l Ω lay y cc maxL ret d av v rv v' := by
  refine va_MetF (cc := cc) (maxL := maxL) (ret := ret) hy rfl ?_
  intro p e s m args below meth c s₁ B hml hv
  obtain ⟨rfl, hP, hD, hK⟩ := hv
  have hts := atoms_spec (ws := .code y cc maxL ret :: gU) B.pre
  have hown : s.vm.findClass y.cls = some m.cls := findClass_of_methodNamed B.named
  have hl := lv_entry av (n := maxL) hlen
  rw [lg_entry_eq]
  rw [hlv] at hl
  exact body (p, l, e, gx_R d, s, m, av.toArray, below, meth, c) rfl rfl ⟨B.exec, B.bytes, hml, hown, fun w h => hts w (List.mem_cons_of_mem _ h), hK, B.returns, B.notSynchronized⟩ s.heap [] _ hP hD va_S.rf hl
def gin (i : Int32) (n : Nat) : Bool := decide (0 ≤ i.toInt ∧ i.toInt < (n : Int))
theorem gin_in {i : Int32} {n : Nat} (h : gin i n = true) : vp_in i n := vp_in_iff.mpr (of_decide_eq_true h)
def jrem (x y : Int32) : Int32 := x - x / y * y
def jremL (x y : Int64) : Int64 := x - x / y * y
def jushr (x y : Int32) : Int32 := (x.toUInt32 >>> (y.toUInt32 &&& Int32.toUInt32 31)).toInt32
def jushrL (x : Int64) (y : Int32) : Int64 := (x.toUInt64 >>> (y.toInt64.toUInt64 &&& Int64.toUInt64 63)).toInt64
def gcp (sp dp n : Int32) (n0 n1 : Nat) : Bool := decide (0 ≤ sp.toInt ∧ 0 ≤ dp.toInt ∧ 0 ≤ n.toInt ∧ sp.toInt + n.toInt ≤ (n0 : Int) ∧ dp.toInt + n.toInt ≤ (n1 : Int))
/-- loops: f's steps from a, at most n of them, until one ends with a b -/
def lp {α β : Type} (f : α → Option (α ⊕ β)) : Nat → α → Option β
  | 0, _ => none
  | n + 1, a => match f a with
    | none => none
    | some (.inl a') => lp f n a'
    | some (.inr b) => some b
theorem lp_ind {α β : Type} {f : α → Option (α ⊕ β)} {P : α → Prop} {Z : β → Prop} (hs : ∀ a o, f a = some o → (∀ a', o = .inl a' → P a') → (∀ b, o = .inr b → Z b) → P a) : ∀ (n : Nat) (a : α) (b : β), lp f n a = some b → Z b → P a
  | 0, a, b, h, _ => by simp [lp] at h
  | n + 1, a, b, h, hz => by
    rw [lp] at h
    cases hf : f a with
    | none => rw [hf] at h; cases h
    | some o =>
      rw [hf] at h
      cases o with
      | inl a' => exact hs a _ hf (fun a2 e => by cases e; exact lp_ind hs n a' b h hz) (fun b2 e => by cases e)
      | inr b' => cases h; exact hs a _ hf (fun a2 e => by cases e) (fun b2 e => by cases e; exact hz)
def fu : Nat := 4096
def bi {ρ : Type} (o : Option (Int32 × gV)) (k : Int32 → gV → Option ρ) : Option ρ := match o with
  | none => none
  | some (r, v) => k r v
def bj {ρ : Type} (o : Option (Int64 × gV)) (k : Int64 → gV → Option ρ) : Option ρ := match o with
  | none => none
  | some (r, v) => k r v
def br {ρ : Type} (o : Option (Nat × gV)) (ok : Nat → Bool) (k : Nat → gV → Option ρ) : Option ρ := match o with
  | none => none
  | some (r, v) => if ok r = true then k r v else none
def bv {ρ : Type} (o : Option gV) (k : gV → Option ρ) : Option ρ := match o with
  | none => none
  | some v => k v
def bx {α ρ : Type} (o : Option α) (k : α → Option ρ) : Option ρ := match o with
  | none => none
  | some v => k v
def ga {ρ : Type} (i : Int32) (ls : List Nat) (ok : Nat → Bool) (k : Nat → Option ρ) : Option ρ := if gin i ls.length = true then (if ok (ls.getD i.toNatClampNeg 0) = true then k (ls.getD i.toNatClampNeg 0) else none) else none
/-- a value is named -/
def bd {α ρ : Type} (a : α) (k : α → Option ρ) : Option ρ := k a
theorem bx_some {α ρ : Type} {o : Option α} {k : α → Option ρ} {r : ρ} (h : bx o k = some r) : ∃ a, o = some a ∧ k a = some r := by
  cases o with
  | none => cases h
  | some a => exact ⟨a, rfl, h⟩
theorem if_some {ρ : Type} {b : Bool} {E : Option ρ} {r : ρ} (h : (if b = true then E else none) = some r) : b = true ∧ E = some r := by
  by_cases hb : b = true
  · rw [if_pos hb] at h
    exact ⟨hb, h⟩
  · rw [if_neg hb] at h
    cases h
section GX
variable {Γ : gC} {Ω : gO} {lay : List gk} {Q : State → Prop} {nL : Nat} {v : gV} {pc n : Nat} {lv : List (Nat × Value)} {st : List Value} {cc : ByteArray} {own : String} {ret : Option FieldType}
theorem gi_iadd (hX : gx_X Γ Ω cc own nL ret) {x y : Int32} (hd : decode cc pc = .ok (.iadd, 1)) (hn : pc + 1 = n) (k : gx_G Γ Ω lay Q nL v n lv (.int (x + y) :: st)) : gx_G Γ Ω lay Q nL v pc lv (.int y :: .int x :: st) := by
  subst hn
  exact fun H locs ls hP hD hS hl => lv_iadd hX.1 hX.2.1 hd  (k H locs ls hP hD hS hl)
theorem gi_isub (hX : gx_X Γ Ω cc own nL ret) {x y : Int32} (hd : decode cc pc = .ok (.isub, 1)) (hn : pc + 1 = n) (k : gx_G Γ Ω lay Q nL v n lv (.int (x - y) :: st)) : gx_G Γ Ω lay Q nL v pc lv (.int y :: .int x :: st) := by
  subst hn
  exact fun H locs ls hP hD hS hl => lv_isub hX.1 hX.2.1 hd  (k H locs ls hP hD hS hl)
theorem gi_imul (hX : gx_X Γ Ω cc own nL ret) {x y : Int32} (hd : decode cc pc = .ok (.imul, 1)) (hn : pc + 1 = n) (k : gx_G Γ Ω lay Q nL v n lv (.int (x * y) :: st)) : gx_G Γ Ω lay Q nL v pc lv (.int y :: .int x :: st) := by
  subst hn
  exact fun H locs ls hP hD hS hl => lv_imul hX.1 hX.2.1 hd  (k H locs ls hP hD hS hl)
theorem gi_iand (hX : gx_X Γ Ω cc own nL ret) {x y : Int32} (hd : decode cc pc = .ok (.iand, 1)) (hn : pc + 1 = n) (k : gx_G Γ Ω lay Q nL v n lv (.int (x &&& y) :: st)) : gx_G Γ Ω lay Q nL v pc lv (.int y :: .int x :: st) := by
  subst hn
  exact fun H locs ls hP hD hS hl => lv_iand hX.1 hX.2.1 hd  (k H locs ls hP hD hS hl)
theorem gi_ior (hX : gx_X Γ Ω cc own nL ret) {x y : Int32} (hd : decode cc pc = .ok (.ior, 1)) (hn : pc + 1 = n) (k : gx_G Γ Ω lay Q nL v n lv (.int (x ||| y) :: st)) : gx_G Γ Ω lay Q nL v pc lv (.int y :: .int x :: st) := by
  subst hn
  exact fun H locs ls hP hD hS hl => lv_ior hX.1 hX.2.1 hd  (k H locs ls hP hD hS hl)
theorem gi_ixor (hX : gx_X Γ Ω cc own nL ret) {x y : Int32} (hd : decode cc pc = .ok (.ixor, 1)) (hn : pc + 1 = n) (k : gx_G Γ Ω lay Q nL v n lv (.int (x ^^^ y) :: st)) : gx_G Γ Ω lay Q nL v pc lv (.int y :: .int x :: st) := by
  subst hn
  exact fun H locs ls hP hD hS hl => lv_ixor hX.1 hX.2.1 hd  (k H locs ls hP hD hS hl)
theorem gi_ishl (hX : gx_X Γ Ω cc own nL ret) {x y : Int32} (hd : decode cc pc = .ok (.ishl, 1)) (hn : pc + 1 = n) (k : gx_G Γ Ω lay Q nL v n lv (.int (x <<< (y &&& 31)) :: st)) : gx_G Γ Ω lay Q nL v pc lv (.int y :: .int x :: st) := by
  subst hn
  exact fun H locs ls hP hD hS hl => lv_ishl hX.1 hX.2.1 hd  (k H locs ls hP hD hS hl)
theorem gi_ishr (hX : gx_X Γ Ω cc own nL ret) {x y : Int32} (hd : decode cc pc = .ok (.ishr, 1)) (hn : pc + 1 = n) (k : gx_G Γ Ω lay Q nL v n lv (.int (x >>> (y &&& 31)) :: st)) : gx_G Γ Ω lay Q nL v pc lv (.int y :: .int x :: st) := by
  subst hn
  exact fun H locs ls hP hD hS hl => lv_ishr hX.1 hX.2.1 hd  (k H locs ls hP hD hS hl)
theorem gi_iushr (hX : gx_X Γ Ω cc own nL ret) {x y : Int32} (hd : decode cc pc = .ok (.iushr, 1)) (hn : pc + 1 = n) (k : gx_G Γ Ω lay Q nL v n lv (.int (jushr x y) :: st)) : gx_G Γ Ω lay Q nL v pc lv (.int y :: .int x :: st) := by
  subst hn
  exact fun H locs ls hP hD hS hl => lv_iushr hX.1 hX.2.1 hd rfl (k H locs ls hP hD hS hl)
theorem gi_ineg (hX : gx_X Γ Ω cc own nL ret) {x : Int32} (hd : decode cc pc = .ok (.ineg, 1)) (hn : pc + 1 = n) (k : gx_G Γ Ω lay Q nL v n lv (.int (-x) :: st)) : gx_G Γ Ω lay Q nL v pc lv (.int x :: st) := by
  subst hn
  exact fun H locs ls hP hD hS hl => lv_ineg hX.1 hX.2.1 hd  (k H locs ls hP hD hS hl)
theorem gi_idiv (hX : gx_X Γ Ω cc own nL ret) {x y : Int32} (h0 : ¬ y = 0) (hd : decode cc pc = .ok (.idiv, 1)) (hn : pc + 1 = n) (k : gx_G Γ Ω lay Q nL v n lv (.int (x / y) :: st)) : gx_G Γ Ω lay Q nL v pc lv (.int y :: .int x :: st) := by
  subst hn
  exact fun H locs ls hP hD hS hl => lv_idiv hX.1 hX.2.1 hd h0 (k H locs ls hP hD hS hl)
theorem gi_irem (hX : gx_X Γ Ω cc own nL ret) {x y : Int32} (h0 : ¬ y = 0) (hd : decode cc pc = .ok (.irem, 1)) (hn : pc + 1 = n) (k : gx_G Γ Ω lay Q nL v n lv (.int (jrem x y) :: st)) : gx_G Γ Ω lay Q nL v pc lv (.int y :: .int x :: st) := by
  subst hn
  exact fun H locs ls hP hD hS hl => lv_irem hX.1 hX.2.1 hd h0 (k H locs ls hP hD hS hl)
theorem gi_ladd (hX : gx_X Γ Ω cc own nL ret) {x y : Int64} (hd : decode cc pc = .ok (.ladd, 1)) (hn : pc + 1 = n) (k : gx_G Γ Ω lay Q nL v n lv (.long (x + y) :: st)) : gx_G Γ Ω lay Q nL v pc lv (.long y :: .long x :: st) := by
  subst hn
  exact fun H locs ls hP hD hS hl => lv_ladd hX.1 hX.2.1 hd  (k H locs ls hP hD hS hl)
theorem gi_lsub (hX : gx_X Γ Ω cc own nL ret) {x y : Int64} (hd : decode cc pc = .ok (.lsub, 1)) (hn : pc + 1 = n) (k : gx_G Γ Ω lay Q nL v n lv (.long (x - y) :: st)) : gx_G Γ Ω lay Q nL v pc lv (.long y :: .long x :: st) := by
  subst hn
  exact fun H locs ls hP hD hS hl => lv_lsub hX.1 hX.2.1 hd  (k H locs ls hP hD hS hl)
theorem gi_lmul (hX : gx_X Γ Ω cc own nL ret) {x y : Int64} (hd : decode cc pc = .ok (.lmul, 1)) (hn : pc + 1 = n) (k : gx_G Γ Ω lay Q nL v n lv (.long (x * y) :: st)) : gx_G Γ Ω lay Q nL v pc lv (.long y :: .long x :: st) := by
  subst hn
  exact fun H locs ls hP hD hS hl => lv_lmul hX.1 hX.2.1 hd  (k H locs ls hP hD hS hl)
theorem gi_land (hX : gx_X Γ Ω cc own nL ret) {x y : Int64} (hd : decode cc pc = .ok (.land, 1)) (hn : pc + 1 = n) (k : gx_G Γ Ω lay Q nL v n lv (.long (x &&& y) :: st)) : gx_G Γ Ω lay Q nL v pc lv (.long y :: .long x :: st) := by
  subst hn
  exact fun H locs ls hP hD hS hl => lv_land hX.1 hX.2.1 hd  (k H locs ls hP hD hS hl)
theorem gi_lor (hX : gx_X Γ Ω cc own nL ret) {x y : Int64} (hd : decode cc pc = .ok (.lor, 1)) (hn : pc + 1 = n) (k : gx_G Γ Ω lay Q nL v n lv (.long (x ||| y) :: st)) : gx_G Γ Ω lay Q nL v pc lv (.long y :: .long x :: st) := by
  subst hn
  exact fun H locs ls hP hD hS hl => lv_lor hX.1 hX.2.1 hd  (k H locs ls hP hD hS hl)
theorem gi_ldiv (hX : gx_X Γ Ω cc own nL ret) {x y : Int64} (h0 : ¬ y = 0) (hd : decode cc pc = .ok (.ldiv, 1)) (hn : pc + 1 = n) (k : gx_G Γ Ω lay Q nL v n lv (.long (x / y) :: st)) : gx_G Γ Ω lay Q nL v pc lv (.long y :: .long x :: st) := by
  subst hn
  exact fun H locs ls hP hD hS hl => lv_ldiv hX.1 hX.2.1 hd h0 (k H locs ls hP hD hS hl)
theorem gi_lrem (hX : gx_X Γ Ω cc own nL ret) {x y : Int64} (h0 : ¬ y = 0) (hd : decode cc pc = .ok (.lrem, 1)) (hn : pc + 1 = n) (k : gx_G Γ Ω lay Q nL v n lv (.long (jremL x y) :: st)) : gx_G Γ Ω lay Q nL v pc lv (.long y :: .long x :: st) := by
  subst hn
  exact fun H locs ls hP hD hS hl => lv_lrem hX.1 hX.2.1 hd h0 (k H locs ls hP hD hS hl)
theorem gi_lshl (hX : gx_X Γ Ω cc own nL ret) {x : Int64} {y : Int32} (hd : decode cc pc = .ok (.lshl, 1)) (hn : pc + 1 = n) (k : gx_G Γ Ω lay Q nL v n lv (.long (x <<< (y.toInt64 &&& 63)) :: st)) : gx_G Γ Ω lay Q nL v pc lv (.int y :: .long x :: st) := by
  subst hn
  exact fun H locs ls hP hD hS hl => lv_lshl hX.1 hX.2.1 hd rfl (k H locs ls hP hD hS hl)
theorem gi_lushr (hX : gx_X Γ Ω cc own nL ret) {x : Int64} {y : Int32} (hd : decode cc pc = .ok (.lushr, 1)) (hn : pc + 1 = n) (k : gx_G Γ Ω lay Q nL v n lv (.long (jushrL x y) :: st)) : gx_G Γ Ω lay Q nL v pc lv (.int y :: .long x :: st) := by
  subst hn
  exact fun H locs ls hP hD hS hl => lv_lushr hX.1 hX.2.1 hd rfl (k H locs ls hP hD hS hl)
theorem gi_i2l (hX : gx_X Γ Ω cc own nL ret) {x : Int32} (hd : decode cc pc = .ok (.i2l, 1)) (hn : pc + 1 = n) (k : gx_G Γ Ω lay Q nL v n lv (.long x.toInt64 :: st)) : gx_G Γ Ω lay Q nL v pc lv (.int x :: st) := by
  subst hn
  exact fun H locs ls hP hD hS hl => lv_i2l hX.1 hX.2.1 hd rfl (k H locs ls hP hD hS hl)
theorem gi_l2i (hX : gx_X Γ Ω cc own nL ret) {x : Int64} (hd : decode cc pc = .ok (.l2i, 1)) (hn : pc + 1 = n) (k : gx_G Γ Ω lay Q nL v n lv (.int x.toInt32 :: st)) : gx_G Γ Ω lay Q nL v pc lv (.long x :: st) := by
  subst hn
  exact fun H locs ls hP hD hS hl => lv_l2i hX.1 hX.2.1 hd rfl (k H locs ls hP hD hS hl)
theorem gi_i2b (hX : gx_X Γ Ω cc own nL ret) {x : Int32} (hd : decode cc pc = .ok (.i2b, 1)) (hn : pc + 1 = n) (k : gx_G Γ Ω lay Q nL v n lv (.int x.toInt8.toInt32 :: st)) : gx_G Γ Ω lay Q nL v pc lv (.int x :: st) := by
  subst hn
  exact fun H locs ls hP hD hS hl => lv_i2b hX.1 hX.2.1 hd rfl (k H locs ls hP hD hS hl)
theorem gi_i2s (hX : gx_X Γ Ω cc own nL ret) {x : Int32} (hd : decode cc pc = .ok (.i2s, 1)) (hn : pc + 1 = n) (k : gx_G Γ Ω lay Q nL v n lv (.int x.toInt16.toInt32 :: st)) : gx_G Γ Ω lay Q nL v pc lv (.int x :: st) := by
  subst hn
  exact fun H locs ls hP hD hS hl => lv_i2s hX.1 hX.2.1 hd rfl (k H locs ls hP hD hS hl)
theorem gi_lcmp (hX : gx_X Γ Ω cc own nL ret) {x y : Int64} (hd : decode cc pc = .ok (.lcmp, 1)) (hn : pc + 1 = n) (k : gx_G Γ Ω lay Q nL v n lv (.int (lg_cmp x y) :: st)) : gx_G Γ Ω lay Q nL v pc lv (.long y :: .long x :: st) := by
  subst hn
  exact fun H locs ls hP hD hS hl => W.lcmp hX.1 hX.2.1 hd  (k H locs ls hP hD hS hl)
theorem gi_dup (hX : gx_X Γ Ω cc own nL ret) {va : Value} (h1 : va.category = 1) (hd : decode cc pc = .ok (.dup, 1)) (hn : pc + 1 = n) (k : gx_G Γ Ω lay Q nL v n lv (va :: va :: st)) : gx_G Γ Ω lay Q nL v pc lv (va :: st) := by
  subst hn
  exact fun H locs ls hP hD hS hl => lv_dup hX.1 hX.2.1 hd h1 (k H locs ls hP hD hS hl)
theorem gi_pop (hX : gx_X Γ Ω cc own nL ret) {va : Value} (h1 : va.category = 1) (hd : decode cc pc = .ok (.pop, 1)) (hn : pc + 1 = n) (k : gx_G Γ Ω lay Q nL v n lv (st)) : gx_G Γ Ω lay Q nL v pc lv (va :: st) := by
  subst hn
  exact fun H locs ls hP hD hS hl => lv_pop hX.1 hX.2.1 hd h1 (k H locs ls hP hD hS hl)
theorem gi_dup2 (hX : gx_X Γ Ω cc own nL ret) {va vb : Value} (h1 : va.category = 1) (h2 : vb.category = 1) (hd : decode cc pc = .ok (.dup2, 1)) (hn : pc + 1 = n) (k : gx_G Γ Ω lay Q nL v n lv (va :: vb :: va :: vb :: st)) : gx_G Γ Ω lay Q nL v pc lv (va :: vb :: st) := by
  subst hn
  exact fun H locs ls hP hD hS hl => lv_dup2_11 hX.1 hX.2.1 hd h1 h2 (k H locs ls hP hD hS hl)
theorem gi_iconst (hX : gx_X Γ Ω cc own nL ret) {i : Int} {x : Int32} (hv : Int32.ofInt i = x) (hd : decode cc pc = .ok (.iconst i, 1)) (hn : pc + 1 = n) (k : gx_G Γ Ω lay Q nL v n lv (.int x :: st)) : gx_G Γ Ω lay Q nL v pc lv (st) := by
  subst hn
  exact fun H locs ls hP hD hS hl => lv_iconst hX.1 hX.2.1 hd hv (k H locs ls hP hD hS hl)
theorem gi_bipush (hX : gx_X Γ Ω cc own nL ret) {i : Int} {x : Int32} (hv : (Int8.ofInt i).toInt32 = x) (hd : decode cc pc = .ok (.bipush i, 2)) (hn : pc + 2 = n) (k : gx_G Γ Ω lay Q nL v n lv (.int x :: st)) : gx_G Γ Ω lay Q nL v pc lv (st) := by
  subst hn
  exact fun H locs ls hP hD hS hl => lv_bipush hX.1 hX.2.1 hd hv (k H locs ls hP hD hS hl)
theorem gi_sipush (hX : gx_X Γ Ω cc own nL ret) {i : Int} {x : Int32} (hv : (Int16.ofInt i).toInt32 = x) (hd : decode cc pc = .ok (.sipush i, 3)) (hn : pc + 3 = n) (k : gx_G Γ Ω lay Q nL v n lv (.int x :: st)) : gx_G Γ Ω lay Q nL v pc lv (st) := by
  subst hn
  exact fun H locs ls hP hD hS hl => lv_sipush hX.1 hX.2.1 hd hv (k H locs ls hP hD hS hl)
theorem gi_lconst (hX : gx_X Γ Ω cc own nL ret) {i : Fin 2} {x : Int64} (hv : Int64.ofNat (i : Nat) = x) (hd : decode cc pc = .ok (.lconst i, 1)) (hn : pc + 1 = n) (k : gx_G Γ Ω lay Q nL v n lv (.long x :: st)) : gx_G Γ Ω lay Q nL v pc lv (st) := by
  subst hn
  exact fun H locs ls hP hD hS hl => lv_lconst hX.1 hX.2.1 hd hv (k H locs ls hP hD hS hl)
theorem gi_ldc (hX : gx_X Γ Ω cc own nL ret) {idx : Nat} {x : Int32} (hw : Cond.constant own idx x ∈ gU) (hd : decode cc pc = .ok (.ldc idx, 2)) (hn : pc + 2 = n) (k : gx_G Γ Ω lay Q nL v n lv (.int x :: st)) : gx_G Γ Ω lay Q nL v pc lv st := by
  subst hn
  exact fun H locs ls hP hD hS hl => lv_ldc hX.1 hX.2.1 hX.2.2.2.1 (hX.2.2.2.2.1 _ hw) hd (k H locs ls hP hD hS hl)
theorem gi_ldcw (hX : gx_X Γ Ω cc own nL ret) {idx : Nat} {x : Int32} (hw : Cond.constant own idx x ∈ gU) (hd : decode cc pc = .ok (.ldc_w idx, 3)) (hn : pc + 3 = n) (k : gx_G Γ Ω lay Q nL v n lv (.int x :: st)) : gx_G Γ Ω lay Q nL v pc lv st := by
  subst hn
  exact fun H locs ls hP hD hS hl => lv_ldcw hX.1 hX.2.1 hX.2.2.2.1 (hX.2.2.2.2.1 _ hw) hd (k H locs ls hP hD hS hl)
theorem gi_ldc2 (hX : gx_X Γ Ω cc own nL ret) {idx : Nat} {x : Int64} (hw : Cond.constantLong own idx x ∈ gU) (hd : decode cc pc = .ok (.ldc2_w idx, 3)) (hn : pc + 3 = n) (k : gx_G Γ Ω lay Q nL v n lv (.long x :: st)) : gx_G Γ Ω lay Q nL v pc lv st := by
  subst hn
  exact fun H locs ls hP hD hS hl => lv_ldc2 hX.1 hX.2.1 hX.2.2.2.1 (hX.2.2.2.2.1 _ hw) hd (k H locs ls hP hD hS hl)
theorem gi_iload_n (hX : gx_X Γ Ω cc own nL ret) (j : Nat) {k4 : Fin 4} {i : Nat} {x : Int32} (hd : decode cc pc = .ok (.iload_n k4, 1)) (hn : pc + 1 = n) (hi : (k4 : Nat) = i) (hj : lv[j]? = some (i, .int x)) (k : gx_G Γ Ω lay Q nL v n lv (.int x :: st)) : gx_G Γ Ω lay Q nL v pc lv st := by
  subst hn
  exact fun H locs ls hP hD hS hl => lv_iload_n hX.1 hX.2.1 hd hi (lv_at hl j hj) (k H locs ls hP hD hS hl)
theorem gi_iload (hX : gx_X Γ Ω cc own nL ret) (j : Nat) {i : Nat} {x : Int32} (hd : decode cc pc = .ok (.iload i, 2)) (hn : pc + 2 = n) (hj : lv[j]? = some (i, .int x)) (k : gx_G Γ Ω lay Q nL v n lv (.int x :: st)) : gx_G Γ Ω lay Q nL v pc lv st := by
  subst hn
  exact fun H locs ls hP hD hS hl => lv_iload hX.1 hX.2.1 hd (lv_at hl j hj) (k H locs ls hP hD hS hl)
theorem gi_istore_n (hX : gx_X Γ Ω cc own nL ret) {k4 : Fin 4} {i : Nat} {x : Int32} (lv' : List (Nat × Value)) (hd : decode cc pc = .ok (.istore_n k4, 1)) (hn : pc + 1 = n) (hi : (k4 : Nat) = i) (hm : Nat.blt (i) nL = true) (hl' : (i, Value.int x) :: lv.filter (fun q => !(q.1 == i) && !(q.1 + 1 == i && q.2.category == 2)) = lv') (k : gx_G Γ Ω lay Q nL v n lv' st) : gx_G Γ Ω lay Q nL v pc lv (.int x :: st) := by
  subst hn
  exact fun H locs ls hP hD hS hl => lv_istore_n hX.1 hX.2.1 hd hi hl (Nat.le_of_ble_eq_true hm) hl' (fun ls' hl2 => k H locs ls' hP hD hS hl2)
theorem gi_istore (hX : gx_X Γ Ω cc own nL ret) {i : Nat} {x : Int32} (lv' : List (Nat × Value)) (hd : decode cc pc = .ok (.istore i, 2)) (hn : pc + 2 = n) (hm : Nat.blt (i) nL = true) (hl' : (i, Value.int x) :: lv.filter (fun q => !(q.1 == i) && !(q.1 + 1 == i && q.2.category == 2)) = lv') (k : gx_G Γ Ω lay Q nL v n lv' st) : gx_G Γ Ω lay Q nL v pc lv (.int x :: st) := by
  subst hn
  exact fun H locs ls hP hD hS hl => lv_istore hX.1 hX.2.1 hd hl (Nat.le_of_ble_eq_true hm) hl' (fun ls' hl2 => k H locs ls' hP hD hS hl2)
theorem gi_lload_n (hX : gx_X Γ Ω cc own nL ret) (j : Nat) {k4 : Fin 4} {i : Nat} {x : Int64} (hd : decode cc pc = .ok (.lload_n k4, 1)) (hn : pc + 1 = n) (hi : (k4 : Nat) = i) (hj : lv[j]? = some (i, .long x)) (k : gx_G Γ Ω lay Q nL v n lv (.long x :: st)) : gx_G Γ Ω lay Q nL v pc lv st := by
  subst hn
  exact fun H locs ls hP hD hS hl => lv_lload_n hX.1 hX.2.1 hd hi (lv_at hl j hj) (k H locs ls hP hD hS hl)
theorem gi_lload (hX : gx_X Γ Ω cc own nL ret) (j : Nat) {i : Nat} {x : Int64} (hd : decode cc pc = .ok (.lload i, 2)) (hn : pc + 2 = n) (hj : lv[j]? = some (i, .long x)) (k : gx_G Γ Ω lay Q nL v n lv (.long x :: st)) : gx_G Γ Ω lay Q nL v pc lv st := by
  subst hn
  exact fun H locs ls hP hD hS hl => lv_lload hX.1 hX.2.1 hd (lv_at hl j hj) (k H locs ls hP hD hS hl)
theorem gi_lstore_n (hX : gx_X Γ Ω cc own nL ret) {k4 : Fin 4} {i : Nat} {x : Int64} (lv' : List (Nat × Value)) (hd : decode cc pc = .ok (.lstore_n k4, 1)) (hn : pc + 1 = n) (hi : (k4 : Nat) = i) (hm : Nat.blt (i + 1) nL = true) (hl' : (i, Value.long x) :: lv.filter (fun q => !(q.1 == i) && (!(q.1 == i + 1) && !(q.1 + 1 == i && q.2.category == 2))) = lv') (k : gx_G Γ Ω lay Q nL v n lv' st) : gx_G Γ Ω lay Q nL v pc lv (.long x :: st) := by
  subst hn
  exact fun H locs ls hP hD hS hl => lv_lstore_n hX.1 hX.2.1 hd hi hl (Nat.le_of_ble_eq_true hm) hl' (fun ls' hl2 => k H locs ls' hP hD hS hl2)
theorem gi_lstore (hX : gx_X Γ Ω cc own nL ret) {i : Nat} {x : Int64} (lv' : List (Nat × Value)) (hd : decode cc pc = .ok (.lstore i, 2)) (hn : pc + 2 = n) (hm : Nat.blt (i + 1) nL = true) (hl' : (i, Value.long x) :: lv.filter (fun q => !(q.1 == i) && (!(q.1 == i + 1) && !(q.1 + 1 == i && q.2.category == 2))) = lv') (k : gx_G Γ Ω lay Q nL v n lv' st) : gx_G Γ Ω lay Q nL v pc lv (.long x :: st) := by
  subst hn
  exact fun H locs ls hP hD hS hl => lv_lstore hX.1 hX.2.1 hd hl (Nat.le_of_ble_eq_true hm) hl' (fun ls' hl2 => k H locs ls' hP hD hS hl2)
theorem gi_aload_n (hX : gx_X Γ Ω cc own nL ret) (j : Nat) {k4 : Fin 4} {i : Nat} {x : Nat} (hd : decode cc pc = .ok (.aload_n k4, 1)) (hn : pc + 1 = n) (hi : (k4 : Nat) = i) (hj : lv[j]? = some (i, .ref x)) (k : gx_G Γ Ω lay Q nL v n lv (.ref x :: st)) : gx_G Γ Ω lay Q nL v pc lv st := by
  subst hn
  exact fun H locs ls hP hD hS hl => lv_aload_n hX.1 hX.2.1 hd hi (lv_at hl j hj) (k H locs ls hP hD hS hl)
theorem gi_aload (hX : gx_X Γ Ω cc own nL ret) (j : Nat) {i : Nat} {x : Nat} (hd : decode cc pc = .ok (.aload i, 2)) (hn : pc + 2 = n) (hj : lv[j]? = some (i, .ref x)) (k : gx_G Γ Ω lay Q nL v n lv (.ref x :: st)) : gx_G Γ Ω lay Q nL v pc lv st := by
  subst hn
  exact fun H locs ls hP hD hS hl => lv_aload hX.1 hX.2.1 hd (lv_at hl j hj) (k H locs ls hP hD hS hl)
theorem gi_astore_n (hX : gx_X Γ Ω cc own nL ret) {k4 : Fin 4} {i : Nat} {x : Nat} (lv' : List (Nat × Value)) (hd : decode cc pc = .ok (.astore_n k4, 1)) (hn : pc + 1 = n) (hi : (k4 : Nat) = i) (hm : Nat.blt (i) nL = true) (hl' : (i, Value.ref x) :: lv.filter (fun q => !(q.1 == i) && !(q.1 + 1 == i && q.2.category == 2)) = lv') (k : gx_G Γ Ω lay Q nL v n lv' st) : gx_G Γ Ω lay Q nL v pc lv (.ref x :: st) := by
  subst hn
  exact fun H locs ls hP hD hS hl => lv_astore_n hX.1 hX.2.1 hd hi hl (Nat.le_of_ble_eq_true hm) hl' (fun ls' hl2 => k H locs ls' hP hD hS hl2)
theorem gi_astore (hX : gx_X Γ Ω cc own nL ret) {i : Nat} {x : Nat} (lv' : List (Nat × Value)) (hd : decode cc pc = .ok (.astore i, 2)) (hn : pc + 2 = n) (hm : Nat.blt (i) nL = true) (hl' : (i, Value.ref x) :: lv.filter (fun q => !(q.1 == i) && !(q.1 + 1 == i && q.2.category == 2)) = lv') (k : gx_G Γ Ω lay Q nL v n lv' st) : gx_G Γ Ω lay Q nL v pc lv (.ref x :: st) := by
  subst hn
  exact fun H locs ls hP hD hS hl => lv_astore hX.1 hX.2.1 hd hl (Nat.le_of_ble_eq_true hm) hl' (fun ls' hl2 => k H locs ls' hP hD hS hl2)
theorem gi_iinc (hX : gx_X Γ Ω cc own nL ret) (j : Nat) {i : Nat} {d : Int} {x y z : Int32} (lv' : List (Nat × Value)) (hd : decode cc pc = .ok (.iinc i d, 3)) (hn : pc + 3 = n) (hj : lv[j]? = some (i, .int x)) (hz : Int32.ofInt d = z) (hy : x + z = y) (hm : Nat.blt i nL = true) (hl' : (i, Value.int y) :: lv.filter (fun q => !(q.1 == i) && !(q.1 + 1 == i && q.2.category == 2)) = lv') (k : gx_G Γ Ω lay Q nL v n lv' st) : gx_G Γ Ω lay Q nL v pc lv st := by
  subst hn
  exact fun H locs ls hP hD hS hl => lv_iinc hX.1 hX.2.1 hd hl hj (by rw [hz]; exact hy) (Nat.le_of_ble_eq_true hm) hl' (fun ls' hl2 => k H locs ls' hP hD hS hl2)
theorem gi_goto (hX : gx_X Γ Ω cc own nL ret) {off : Int} (hd : decode cc pc = .ok (.goto off, 3)) (hn : (pc : Int) + off = (n : Int)) (k : gx_G Γ Ω lay Q nL v n lv st) : gx_G Γ Ω lay Q nL v pc lv st := fun H locs ls hP hD hS hl => lv_goto hX.1 hX.2.1 hd hn (k H locs ls hP hD hS hl)
theorem gi_icmp_eq (hX : gx_X Γ Ω cc own nL ret) {x y : Int32} {off : Int} {tgt : Nat} {ρ : Type} {E1 E2 : Option ρ} {res : ρ} {hdec : Decidable (x = y)} (hd : decode cc pc = .ok (.if_icmp .eq off, 3)) (ht : (pc : Int) + off = (tgt : Int)) (hn : pc + 3 = n) (h : @ite (Option ρ) (x = y) hdec E1 E2 = some res) (kt : E1 = some res → gx_G Γ Ω lay Q nL v tgt lv st) (kf : E2 = some res → gx_G Γ Ω lay Q nL v n lv st) : gx_G Γ Ω lay Q nL v pc lv (.int y :: .int x :: st) := by
  subst hn
  intro H locs ls hP hD hS hl
  refine lv_icmp_eq hX.1 hX.2.1 hd ht (fun hc => ?_) (fun hc => ?_)
  · refine kt ?_ H locs ls hP hD hS hl
    rw [if_pos hc] at h
    exact h
  · refine kf ?_ H locs ls hP hD hS hl
    rw [if_neg hc] at h
    exact h
theorem gi_if_eq (hX : gx_X Γ Ω cc own nL ret) {x : Int32} {off : Int} {tgt : Nat} {ρ : Type} {E1 E2 : Option ρ} {res : ρ} {hdec : Decidable (x = 0)} (hd : decode cc pc = .ok (.ifCond .eq off, 3)) (ht : (pc : Int) + off = (tgt : Int)) (hn : pc + 3 = n) (h : @ite (Option ρ) (x = 0) hdec E1 E2 = some res) (kt : E1 = some res → gx_G Γ Ω lay Q nL v tgt lv st) (kf : E2 = some res → gx_G Γ Ω lay Q nL v n lv st) : gx_G Γ Ω lay Q nL v pc lv (.int x :: st) := by
  subst hn
  intro H locs ls hP hD hS hl
  refine lv_if_eq hX.1 hX.2.1 hd ht (fun hc => ?_) (fun hc => ?_)
  · refine kt ?_ H locs ls hP hD hS hl
    rw [if_pos hc] at h
    exact h
  · refine kf ?_ H locs ls hP hD hS hl
    rw [if_neg hc] at h
    exact h
theorem gi_icmp_ne (hX : gx_X Γ Ω cc own nL ret) {x y : Int32} {off : Int} {tgt : Nat} {ρ : Type} {E1 E2 : Option ρ} {res : ρ} {hdec : Decidable (x = y)} (hd : decode cc pc = .ok (.if_icmp .ne off, 3)) (ht : (pc : Int) + off = (tgt : Int)) (hn : pc + 3 = n) (h : @ite (Option ρ) (x = y) hdec E2 E1 = some res) (kt : E1 = some res → gx_G Γ Ω lay Q nL v tgt lv st) (kf : E2 = some res → gx_G Γ Ω lay Q nL v n lv st) : gx_G Γ Ω lay Q nL v pc lv (.int y :: .int x :: st) := by
  subst hn
  intro H locs ls hP hD hS hl
  refine lv_icmp_ne hX.1 hX.2.1 hd ht (fun hc => ?_) (fun hc => ?_)
  · refine kt ?_ H locs ls hP hD hS hl
    rw [if_neg hc] at h
    exact h
  · refine kf ?_ H locs ls hP hD hS hl
    rw [if_pos hc] at h
    exact h
theorem gi_if_ne (hX : gx_X Γ Ω cc own nL ret) {x : Int32} {off : Int} {tgt : Nat} {ρ : Type} {E1 E2 : Option ρ} {res : ρ} {hdec : Decidable (x = 0)} (hd : decode cc pc = .ok (.ifCond .ne off, 3)) (ht : (pc : Int) + off = (tgt : Int)) (hn : pc + 3 = n) (h : @ite (Option ρ) (x = 0) hdec E2 E1 = some res) (kt : E1 = some res → gx_G Γ Ω lay Q nL v tgt lv st) (kf : E2 = some res → gx_G Γ Ω lay Q nL v n lv st) : gx_G Γ Ω lay Q nL v pc lv (.int x :: st) := by
  subst hn
  intro H locs ls hP hD hS hl
  refine lv_if_ne hX.1 hX.2.1 hd ht (fun hc => ?_) (fun hc => ?_)
  · refine kt ?_ H locs ls hP hD hS hl
    rw [if_neg hc] at h
    exact h
  · refine kf ?_ H locs ls hP hD hS hl
    rw [if_pos hc] at h
    exact h
theorem gi_icmp_lt (hX : gx_X Γ Ω cc own nL ret) {x y : Int32} {off : Int} {tgt : Nat} {ρ : Type} {E1 E2 : Option ρ} {res : ρ} {hdec : Decidable (x < y)} (hd : decode cc pc = .ok (.if_icmp .lt off, 3)) (ht : (pc : Int) + off = (tgt : Int)) (hn : pc + 3 = n) (h : @ite (Option ρ) (x < y) hdec E1 E2 = some res) (kt : E1 = some res → gx_G Γ Ω lay Q nL v tgt lv st) (kf : E2 = some res → gx_G Γ Ω lay Q nL v n lv st) : gx_G Γ Ω lay Q nL v pc lv (.int y :: .int x :: st) := by
  subst hn
  intro H locs ls hP hD hS hl
  refine lv_icmp_lt hX.1 hX.2.1 hd ht (fun hc => ?_) (fun hc => ?_)
  · refine kt ?_ H locs ls hP hD hS hl
    rw [if_pos hc] at h
    exact h
  · refine kf ?_ H locs ls hP hD hS hl
    rw [if_neg hc] at h
    exact h
theorem gi_if_lt (hX : gx_X Γ Ω cc own nL ret) {x : Int32} {off : Int} {tgt : Nat} {ρ : Type} {E1 E2 : Option ρ} {res : ρ} {hdec : Decidable (x < 0)} (hd : decode cc pc = .ok (.ifCond .lt off, 3)) (ht : (pc : Int) + off = (tgt : Int)) (hn : pc + 3 = n) (h : @ite (Option ρ) (x < 0) hdec E1 E2 = some res) (kt : E1 = some res → gx_G Γ Ω lay Q nL v tgt lv st) (kf : E2 = some res → gx_G Γ Ω lay Q nL v n lv st) : gx_G Γ Ω lay Q nL v pc lv (.int x :: st) := by
  subst hn
  intro H locs ls hP hD hS hl
  refine lv_if_lt hX.1 hX.2.1 hd ht (fun hc => ?_) (fun hc => ?_)
  · refine kt ?_ H locs ls hP hD hS hl
    rw [if_pos hc] at h
    exact h
  · refine kf ?_ H locs ls hP hD hS hl
    rw [if_neg hc] at h
    exact h
theorem gi_icmp_ge (hX : gx_X Γ Ω cc own nL ret) {x y : Int32} {off : Int} {tgt : Nat} {ρ : Type} {E1 E2 : Option ρ} {res : ρ} {hdec : Decidable (y ≤ x)} (hd : decode cc pc = .ok (.if_icmp .ge off, 3)) (ht : (pc : Int) + off = (tgt : Int)) (hn : pc + 3 = n) (h : @ite (Option ρ) (y ≤ x) hdec E1 E2 = some res) (kt : E1 = some res → gx_G Γ Ω lay Q nL v tgt lv st) (kf : E2 = some res → gx_G Γ Ω lay Q nL v n lv st) : gx_G Γ Ω lay Q nL v pc lv (.int y :: .int x :: st) := by
  subst hn
  intro H locs ls hP hD hS hl
  refine lv_icmp_ge hX.1 hX.2.1 hd ht (fun hc => ?_) (fun hc => ?_)
  · refine kt ?_ H locs ls hP hD hS hl
    rw [if_pos hc] at h
    exact h
  · refine kf ?_ H locs ls hP hD hS hl
    rw [if_neg hc] at h
    exact h
theorem gi_if_ge (hX : gx_X Γ Ω cc own nL ret) {x : Int32} {off : Int} {tgt : Nat} {ρ : Type} {E1 E2 : Option ρ} {res : ρ} {hdec : Decidable (0 ≤ x)} (hd : decode cc pc = .ok (.ifCond .ge off, 3)) (ht : (pc : Int) + off = (tgt : Int)) (hn : pc + 3 = n) (h : @ite (Option ρ) (0 ≤ x) hdec E1 E2 = some res) (kt : E1 = some res → gx_G Γ Ω lay Q nL v tgt lv st) (kf : E2 = some res → gx_G Γ Ω lay Q nL v n lv st) : gx_G Γ Ω lay Q nL v pc lv (.int x :: st) := by
  subst hn
  intro H locs ls hP hD hS hl
  refine lv_if_ge hX.1 hX.2.1 hd ht (fun hc => ?_) (fun hc => ?_)
  · refine kt ?_ H locs ls hP hD hS hl
    rw [if_pos hc] at h
    exact h
  · refine kf ?_ H locs ls hP hD hS hl
    rw [if_neg hc] at h
    exact h
theorem gi_icmp_gt (hX : gx_X Γ Ω cc own nL ret) {x y : Int32} {off : Int} {tgt : Nat} {ρ : Type} {E1 E2 : Option ρ} {res : ρ} {hdec : Decidable (y < x)} (hd : decode cc pc = .ok (.if_icmp .gt off, 3)) (ht : (pc : Int) + off = (tgt : Int)) (hn : pc + 3 = n) (h : @ite (Option ρ) (y < x) hdec E1 E2 = some res) (kt : E1 = some res → gx_G Γ Ω lay Q nL v tgt lv st) (kf : E2 = some res → gx_G Γ Ω lay Q nL v n lv st) : gx_G Γ Ω lay Q nL v pc lv (.int y :: .int x :: st) := by
  subst hn
  intro H locs ls hP hD hS hl
  refine lv_icmp_gt hX.1 hX.2.1 hd ht (fun hc => ?_) (fun hc => ?_)
  · refine kt ?_ H locs ls hP hD hS hl
    rw [if_pos hc] at h
    exact h
  · refine kf ?_ H locs ls hP hD hS hl
    rw [if_neg hc] at h
    exact h
theorem gi_if_gt (hX : gx_X Γ Ω cc own nL ret) {x : Int32} {off : Int} {tgt : Nat} {ρ : Type} {E1 E2 : Option ρ} {res : ρ} {hdec : Decidable (0 < x)} (hd : decode cc pc = .ok (.ifCond .gt off, 3)) (ht : (pc : Int) + off = (tgt : Int)) (hn : pc + 3 = n) (h : @ite (Option ρ) (0 < x) hdec E1 E2 = some res) (kt : E1 = some res → gx_G Γ Ω lay Q nL v tgt lv st) (kf : E2 = some res → gx_G Γ Ω lay Q nL v n lv st) : gx_G Γ Ω lay Q nL v pc lv (.int x :: st) := by
  subst hn
  intro H locs ls hP hD hS hl
  refine lv_if_gt hX.1 hX.2.1 hd ht (fun hc => ?_) (fun hc => ?_)
  · refine kt ?_ H locs ls hP hD hS hl
    rw [if_pos hc] at h
    exact h
  · refine kf ?_ H locs ls hP hD hS hl
    rw [if_neg hc] at h
    exact h
theorem gi_icmp_le (hX : gx_X Γ Ω cc own nL ret) {x y : Int32} {off : Int} {tgt : Nat} {ρ : Type} {E1 E2 : Option ρ} {res : ρ} {hdec : Decidable (x ≤ y)} (hd : decode cc pc = .ok (.if_icmp .le off, 3)) (ht : (pc : Int) + off = (tgt : Int)) (hn : pc + 3 = n) (h : @ite (Option ρ) (x ≤ y) hdec E1 E2 = some res) (kt : E1 = some res → gx_G Γ Ω lay Q nL v tgt lv st) (kf : E2 = some res → gx_G Γ Ω lay Q nL v n lv st) : gx_G Γ Ω lay Q nL v pc lv (.int y :: .int x :: st) := by
  subst hn
  intro H locs ls hP hD hS hl
  refine lv_icmp_le hX.1 hX.2.1 hd ht (fun hc => ?_) (fun hc => ?_)
  · refine kt ?_ H locs ls hP hD hS hl
    rw [if_pos hc] at h
    exact h
  · refine kf ?_ H locs ls hP hD hS hl
    rw [if_neg hc] at h
    exact h
theorem gi_if_le (hX : gx_X Γ Ω cc own nL ret) {x : Int32} {off : Int} {tgt : Nat} {ρ : Type} {E1 E2 : Option ρ} {res : ρ} {hdec : Decidable (x ≤ 0)} (hd : decode cc pc = .ok (.ifCond .le off, 3)) (ht : (pc : Int) + off = (tgt : Int)) (hn : pc + 3 = n) (h : @ite (Option ρ) (x ≤ 0) hdec E1 E2 = some res) (kt : E1 = some res → gx_G Γ Ω lay Q nL v tgt lv st) (kf : E2 = some res → gx_G Γ Ω lay Q nL v n lv st) : gx_G Γ Ω lay Q nL v pc lv (.int x :: st) := by
  subst hn
  intro H locs ls hP hD hS hl
  refine lv_if_le hX.1 hX.2.1 hd ht (fun hc => ?_) (fun hc => ?_)
  · refine kt ?_ H locs ls hP hD hS hl
    rw [if_pos hc] at h
    exact h
  · refine kf ?_ H locs ls hP hD hS hl
    rw [if_neg hc] at h
    exact h
theorem gi_sub (ks : List Nat) {lv' : List (Nat × Value)} (hl' : lv_pick lv ks = lv') (k : gx_G Γ Ω lay Q nL v pc lv' st) : gx_G Γ Ω lay Q nL v pc lv st := fun H locs ls hP hD hS hl => k H locs ls hP hD hS (lv_sub hl ks hl')
theorem gi_tin (hX : gx_X Γ Ω cc own nL ret) {dflt lo hi off : Int} {offs : Array Int} {len tgt : Nat} {x k0 : Int32} (hd : decode cc pc = .ok (.tableswitch dflt lo hi offs, len)) (hx : x = k0) (hk : decide (¬ k0.toInt < lo ∧ ¬ hi < k0.toInt ∧ offs[(k0.toInt - lo).toNat]? = some off ∧ (pc : Int) + off = (tgt : Int)) = true) (k : gx_G Γ Ω lay Q nL v tgt lv st) : gx_G Γ Ω lay Q nL v pc lv (.int x :: st) := by
  subst hx
  obtain ⟨h1, h2, h3, h4⟩ := of_decide_eq_true hk
  exact fun H locs ls hP hD hS hl => lv_tableIn hX.1 hX.2.1 hd h1 h2 h3 h4 (k H locs ls hP hD hS hl)
theorem gi_tout (hX : gx_X Γ Ω cc own nL ret) {dflt lo hi : Int} {offs : Array Int} {len tgt : Nat} {x : Int32} (hd : decode cc pc = .ok (.tableswitch dflt lo hi offs, len)) (hx : x.toInt < lo ∨ hi < x.toInt) (ht : (pc : Int) + dflt = (tgt : Int)) (k : gx_G Γ Ω lay Q nL v tgt lv st) : gx_G Γ Ω lay Q nL v pc lv (.int x :: st) := fun H locs ls hP hD hS hl => lv_tableOut hX.1 hX.2.1 hd hx ht (k H locs ls hP hD hS hl)
/-- what the tables say of class ci -/
def gx_c (ci : Nat) (C : String) (T : u_T) (N : Nat) (t0 : Nat → FieldType) : Prop := vwCl[ci]? = some (C, T, N) ∧ (∀ w ∈ u_ws C T N, w ∈ gU) ∧ (∀ k, k < N → parseFieldDescriptor (T k).2.2.1 = some (t0 k)) ∧ ∀ a, a < N → ∀ b, b < N → a ≠ b → (T a).2.1 ≠ (T b).2.1
theorem gi_getI (hX : gx_X Γ Ω cc own nL ret) {C : String} {T : u_T} {N ci q idx : Nat} {t0 : Nat → FieldType} {tm : List (Option Nat)} (j : Nat) (hc : gx_c ci C T N t0) (hq : lay[q]? = some (gk_o ci tm)) (hj : tm[j]? = some none) (hk : Nat.blt j N = true) (hw : Cond.fieldLink own idx (T j).1 (T j).2.1 (T j).2.2.1 ∈ gU) (hd : decode cc pc = .ok (.getfield idx, 3)) (hn : pc + 3 = n) (k : gx_G Γ Ω lay Q nL v n lv (.int (v.1 q j) :: st)) : gx_G Γ Ω lay Q nL v pc lv (.ref (Ω.1 q) :: st) := by
  subst hn
  exact fun H locs ls hP hD hS hl => va_get hX.1 hX.2.1 hX.2.2.2.2.1 hc.2.1 hX.2.2.2.1 hX.2.2.2.2.2.1.1 hP q (gx_wA hq) hc.1 j (Nat.le_of_ble_eq_true hk) (hX.2.2.2.2.1 _ hw) (fun _ h => h) (by rw [gx_fI tm 0 j hj, Nat.zero_add]) hd (k H locs ls hP hD hS hl)
theorem gi_getR (hX : gx_X Γ Ω cc own nL ret) {C : String} {T : u_T} {N ci q r idx : Nat} {t0 : Nat → FieldType} {tm : List (Option Nat)} (j : Nat) (hc : gx_c ci C T N t0) (hq : lay[q]? = some (gk_o ci tm)) (hj : tm[j]? = some (some r)) (hk : Nat.blt j N = true) (hw : Cond.fieldLink own idx (T j).1 (T j).2.1 (T j).2.2.1 ∈ gU) (hd : decode cc pc = .ok (.getfield idx, 3)) (hn : pc + 3 = n) (k : gx_G Γ Ω lay Q nL v n lv (.ref (Ω.1 r) :: st)) : gx_G Γ Ω lay Q nL v pc lv (.ref (Ω.1 q) :: st) := by
  subst hn
  exact fun H locs ls hP hD hS hl => va_get hX.1 hX.2.1 hX.2.2.2.2.1 hc.2.1 hX.2.2.2.1 hX.2.2.2.2.2.1.1 hP q (gx_wA hq) hc.1 j (Nat.le_of_ble_eq_true hk) (hX.2.2.2.2.1 _ hw) (fun _ h => h) (gx_fR tm 0 j hj) hd (k H locs ls hP hD hS hl)
theorem gi_putI (hX : gx_X Γ Ω cc own nL ret) {C : String} {T : u_T} {N ci q idx : Nat} {t0 : Nat → FieldType} {tm : List (Option Nat)} {x : Int32} {ρ : Type} {E : gV → Option ρ} {res : ρ} (j : Nat) (hc : gx_c ci C T N t0) (hq : lay[q]? = some (gk_o ci tm)) (hj : tm[j]? = some none) (hk : Nat.blt j N = true) (hw : Cond.fieldLink own idx (T j).1 (T j).2.1 (T j).2.2.1 ∈ gU) (hf : (T j).2.2.2 = false) (ht : parseFieldDescriptor (T j).2.2.1 = some .int) (hd : decode cc pc = .ok (.putfield idx, 3)) (hn : pc + 3 = n) (h : bd (sI v q j x) E = some res) (k : ∀ v1 : gV, E v1 = some res → gx_G Γ Ω lay Q nL v1 n lv st) : gx_G Γ Ω lay Q nL v pc lv (.int x :: .ref (Ω.1 q) :: st) := by
  subst hn
  intro H locs ls hP hD hS hl
  refine va_put (ty := .int) hX.1 hX.2.1 hX.2.2.2.2.1 hc.2.1 t0 hc.2.2.1 hc.2.2.2 hX.2.2.2.1 hX.2.2.2.2.2.1.1 hP hD hS q (gx_wA hq) hc.1 j (Nat.le_of_ble_eq_true hk) (hX.2.2.2.2.1 _ hw) (fun _ h => h) hf ht rfl rfl (by rw [gx_fL]; exact (List.getElem?_eq_some_iff.mp hj).1) hd (fun H1 locs1 hP1 hD1 hS1 => ?_)
  have e : (gx_w lay Ω.1 Ω.2.1 v).set q (Ω.1 q, .inr (ci, (gx_f Ω.1 (v.1 q) 0 tm).set j (.int x))) = gx_w lay Ω.1 Ω.2.1 (sI v q j x) := by
    rw [gx_fS tm 0 j hj, Nat.zero_add, ← gx_wS (v := v) (v' := sI v q j x) hq (fun a ha => if_neg ha) (fun _ _ => rfl)]
    show _ = (gx_w lay Ω.1 Ω.2.1 v).set q (Ω.1 q, .inr (ci, gx_f Ω.1 ((sI v q j x).1 q) 0 tm))
    rw [show (sI v q j x).1 q = upd (v.1 q) j x from if_pos rfl]
  rw [e] at hP1 hD1
  exact k _ h H1 locs1 ls hP1 hD1 hS1 hl
theorem gi_iald (hX : gx_X Γ Ω cc own nL ret) {q N : Nat} {i : Int32} {ρ : Type} {E : Option ρ} {res : ρ} (hq : lay[q]? = some (gk_i N)) (hd : decode cc pc = .ok (.iaload, 1)) (hn : pc + 1 = n) (h : (if gin i N = true then E else none) = some res) (k : E = some res → gx_G Γ Ω lay Q nL v n lv (.int (v.1 q i.toNatClampNeg) :: st)) : gx_G Γ Ω lay Q nL v pc lv (.int i :: .ref (Ω.1 q) :: st) := by
  subst hn
  obtain ⟨h1, h2⟩ := if_some h
  exact fun H locs ls hP hD hS hl => va_iald hX.1 hX.2.1 hX.2.2.2.2.2.1.1 hP q 0 (gx_wA hq) rfl (gin_in h1) hd (k h2 H locs ls hP hD hS hl)
theorem gi_lald (hX : gx_X Γ Ω cc own nL ret) {q N : Nat} {i : Int32} {ρ : Type} {E : Option ρ} {res : ρ} (hq : lay[q]? = some (gk_l N)) (hd : decode cc pc = .ok (.laload, 1)) (hn : pc + 1 = n) (h : (if gin i N = true then E else none) = some res) (k : E = some res → gx_G Γ Ω lay Q nL v n lv (.long (v.2 q i.toNatClampNeg) :: st)) : gx_G Γ Ω lay Q nL v pc lv (.int i :: .ref (Ω.1 q) :: st) := by
  subst hn
  obtain ⟨h1, h2⟩ := if_some h
  exact fun H locs ls hP hD hS hl => va_lald hX.1 hX.2.1 hX.2.2.2.2.2.1.1 hP q 1 (gx_wA hq) rfl (gin_in h1) hd (k h2 H locs ls hP hD hS hl)
theorem gi_iast (hX : gx_X Γ Ω cc own nL ret) {q N : Nat} {i x : Int32} {ρ : Type} {E : gV → Option ρ} {res : ρ} (hq : lay[q]? = some (gk_i N)) (hd : decode cc pc = .ok (.iastore, 1)) (hn : pc + 1 = n) (h : (if gin i N = true then bd (sI v q i.toNatClampNeg x) E else none) = some res) (k : ∀ v1 : gV, E v1 = some res → gx_G Γ Ω lay Q nL v1 n lv st) : gx_G Γ Ω lay Q nL v pc lv (.int x :: .int i :: .ref (Ω.1 q) :: st) := by
  subst hn
  obtain ⟨h1, h2⟩ := if_some h
  intro H locs ls hP hD hS hl
  refine va_iast hX.1 hX.2.1 hX.2.2.2.2.2.1.1 hP hD hS q 0 (gx_wA hq) rfl (gin_in h1) hd (fun H1 locs1 hP1 hD1 hS1 => ?_)
  have e : (gx_w lay Ω.1 Ω.2.1 v).set q (Ω.1 q, .inl (Ω.2.1 0, N, .inl (upd (v.1 q) i.toNatClampNeg x))) = gx_w lay Ω.1 Ω.2.1 (sI v q i.toNatClampNeg x) := by
    rw [← gx_wS (v := v) (v' := sI v q i.toNatClampNeg x) hq (fun a ha => if_neg ha) (fun _ _ => rfl)]
    show _ = (gx_w lay Ω.1 Ω.2.1 v).set q (Ω.1 q, .inl (Ω.2.1 0, N, .inl ((sI v q i.toNatClampNeg x).1 q)))
    rw [show (sI v q i.toNatClampNeg x).1 q = upd (v.1 q) i.toNatClampNeg x from if_pos rfl]
  rw [e] at hP1 hD1
  exact k _ h2 H1 locs1 ls hP1 hD1 hS1 hl
theorem gi_last (hX : gx_X Γ Ω cc own nL ret) {q N : Nat} {i : Int32} {x : Int64} {ρ : Type} {E : gV → Option ρ} {res : ρ} (hq : lay[q]? = some (gk_l N)) (hd : decode cc pc = .ok (.lastore, 1)) (hn : pc + 1 = n) (h : (if gin i N = true then bd (sL v q i.toNatClampNeg x) E else none) = some res) (k : ∀ v1 : gV, E v1 = some res → gx_G Γ Ω lay Q nL v1 n lv st) : gx_G Γ Ω lay Q nL v pc lv (.long x :: .int i :: .ref (Ω.1 q) :: st) := by
  subst hn
  obtain ⟨h1, h2⟩ := if_some h
  intro H locs ls hP hD hS hl
  refine va_last hX.1 hX.2.1 hX.2.2.2.2.2.1.1 hP hD hS q 1 (gx_wA hq) rfl (gin_in h1) hd (fun H1 locs1 hP1 hD1 hS1 => ?_)
  have e : (gx_w lay Ω.1 Ω.2.1 v).set q (Ω.1 q, .inl (Ω.2.1 1, N, .inr (.inl (vp_updL (v.2 q) i.toNatClampNeg x)))) = gx_w lay Ω.1 Ω.2.1 (sL v q i.toNatClampNeg x) := by
    rw [← gx_wS (v := v) (v' := sL v q i.toNatClampNeg x) hq (fun _ _ => rfl) (fun a ha => if_neg ha)]
    show _ = (gx_w lay Ω.1 Ω.2.1 v).set q (Ω.1 q, .inl (Ω.2.1 1, N, .inr (.inl ((sL v q i.toNatClampNeg x).2 q))))
    rw [show (sL v q i.toNatClampNeg x).2 q = vp_updL (v.2 q) i.toNatClampNeg x from if_pos rfl]
  rw [e] at hP1 hD1
  exact k _ h2 H1 locs1 ls hP1 hD1 hS1 hl
theorem gi_ilen (hX : gx_X Γ Ω cc own nL ret) {q N : Nat} (hq : lay[q]? = some (gk_i N)) (hd : decode cc pc = .ok (.arraylength, 1)) (hn : pc + 1 = n) (k : gx_G Γ Ω lay Q nL v n lv (.int (nI N) :: st)) : gx_G Γ Ω lay Q nL v pc lv (.ref (Ω.1 q) :: st) := by
  subst hn
  exact fun H locs ls hP hD hS hl => va_alen hX.1 hX.2.1 hX.2.2.2.2.2.1.1 hP q 0 (gx_wA hq) rfl rfl hd (k H locs ls hP hD hS hl)
theorem gi_rlen (hX : gx_X Γ Ω cc own nL ret) {q t N : Nat} {Ls : List Nat} (hq : lay[q]? = some (gk_r t Ls)) (ht : Nat.blt t 6 = true) (hN : Ls.length = N) (hd : decode cc pc = .ok (.arraylength, 1)) (hn : pc + 1 = n) (k : gx_G Γ Ω lay Q nL v n lv (.int (nI N) :: st)) : gx_G Γ Ω lay Q nL v pc lv (.ref (Ω.1 q) :: st) := by
  subst hn
  subst hN
  have h6 : t < 6 := Nat.le_of_ble_eq_true ht
  have hty : ∃ y0, (gx_tys Ω.2.1)[t]? = some (Ω.2.1 t, y0) := by
    rcases (show t = 0 ∨ t = 1 ∨ t = 2 ∨ t = 3 ∨ t = 4 ∨ t = 5 by omega) with rfl | rfl | rfl | rfl | rfl | rfl <;> exact ⟨_, rfl⟩
  obtain ⟨y0, hy0⟩ := hty
  exact fun H locs ls hP hD hS hl => va_alen hX.1 hX.2.1 hX.2.2.2.2.2.1.1 hP q t (gx_wA hq) hy0 rfl hd (k H locs ls hP hD hS hl)
theorem gi_aald (hX : gx_X Γ Ω cc own nL ret) {q t : Nat} {Ls : List Nat} {i : Int32} {ρ : Type} {ok : Nat → Bool} {E : Nat → Option ρ} {res : ρ} (hq : lay[q]? = some (gk_r t Ls)) (ht : t = 2 ∨ t = 3 ∨ t = 4 ∨ t = 5) (hd : decode cc pc = .ok (.aaload, 1)) (hn : pc + 1 = n) (h : ga i Ls ok E = some res) (k : ∀ r : Nat, ok r = true → E r = some res → gx_G Γ Ω lay Q nL v n lv (.ref (Ω.1 r) :: st)) : gx_G Γ Ω lay Q nL v pc lv (.int i :: .ref (Ω.1 q) :: st) := by
  subst hn
  obtain ⟨h1, h2⟩ := if_some h
  obtain ⟨h3, h4⟩ := if_some h2
  have hin := gin_in h1
  have hlt : i.toNatClampNeg < Ls.length := Nat.not_le.mp fun q => hin (Or.inr q)
  have hty : ∃ y0, (gx_tys Ω.2.1)[t]? = some (Ω.2.1 t, y0) ∧ refKind y0 = true := by
    rcases ht with rfl | rfl | rfl | rfl <;> exact ⟨_, rfl, rfl⟩
  obtain ⟨y0, hy0, hy1⟩ := hty
  have hf : va_rf ((Ls[i.toNatClampNeg]?).map Ω.1) = .ref (Ω.1 (Ls.getD i.toNatClampNeg 0)) := by
    rw [List.getD_eq_getElem?_getD, List.getElem?_eq_getElem hlt]
    rfl
  intro H locs ls hP hD hS hl
  refine W.aald (v := .ref (Ω.1 (Ls.getD i.toNatClampNeg 0))) (ty := y0) hX.1 hX.2.1 (hP q _ (gx_wA hq)) ((hX.2.2.2.2.2.1.1.2 t _ hy0).1 Ls.length (fun j => va_rf ((Ls[j]?).map Ω.1))) hy1 (fun q => by cases q) (by show ¬ (i < 0 ∨ (arrV _ _ _).slots.size ≤ _); rw [arrV_size]; exact hin) (by show (arrV _ _ _).slots[_]? = _; rw [arrV_read _ _ hlt, hf]) rfl rfl hd (k _ h3 h4 H locs ls hP hD hS hl)
theorem gi_copy (hX : gx_X Γ Ω cc own nL ret) {d q0 q1 n0 n1 idx : Nat} {sp dp m0 : Int32} {ρ : Type} {E : gV → Option ρ} {res : ρ} (hq0 : lay[q0]? = some (gk_i n0)) (hq1 : lay[q1]? = some (gk_i n1)) (hw : Cond.methodLink own idx arraycopyName ∈ gU) (hw1 : Cond.native arraycopyName ∈ gU) (hw2 : Cond.static arraycopyName ∈ gU) (hw3 : Cond.initialized "java/lang/System" ∈ gU) (hR : Γ.2.2.2.1 = gx_R (d + 1)) (hst0 : Nat.ble (st.map fun v => v.category).sum 8 = true) (hd : decode cc pc = .ok (.invokestatic idx, 3)) (hn : pc + 3 = n) (h : (if gcp sp dp m0 n0 n1 = true then bd (sA v q1 (va_cpy (v.1 q0) (v.1 q1) sp.toNatClampNeg dp.toNatClampNeg m0.toNatClampNeg)) E else none) = some res) (k : ∀ v1 : gV, E v1 = some res → gx_G Γ Ω lay Q nL v1 n lv st) : gx_G Γ Ω lay Q nL v pc lv (.int m0 :: .int dp :: .ref (Ω.1 q1) :: .int sp :: .ref (Ω.1 q0) :: st) := by
  subst hn
  obtain ⟨h1, h2⟩ := if_some h
  obtain ⟨g1, g2, g3, g4, g5⟩ := of_decide_eq_true h1
  have nn : ∀ z : Int32, 0 ≤ z.toInt → ¬ z < 0 ∧ (z.toNatClampNeg : Int) = z.toInt := fun z hz => ⟨fun q => by rw [Int32.lt_iff_toInt_lt] at q; exact absurd q (Int.not_lt.mpr hz), by rw [Int32.toNatClampNeg]; omega⟩
  intro H locs ls hP hD hS hl
  have hst : (st.map fun v => v.category).sum ≤ 8 := Nat.le_of_ble_eq_true hst0
  have hfr : 1 ≤ Γ.2.2.2.1.frames := by
    rw [hR]
    exact Nat.succ_le_succ (Nat.zero_le _)
  have hlo : (st.map fun v => v.category).sum + (nativeFrameWords "java/lang/System" "arraycopy" 5 + 11) ≤ Γ.2.2.2.1.locals := by
    rw [hR]
    have e9 : nativeFrameWords "java/lang/System" "arraycopy" 5 ≤ 13 := by decide +kernel
    show _ + (_ + 11) ≤ 40 * (d + 1)
    omega
  refine va_copyi hX.1 hX.2.1 (hX.2.2.1.trans hl.1.symm) hX.2.2.2.1 (hX.2.2.2.2.1 _ hw) (hX.2.2.2.2.1 _ hw1) (hX.2.2.2.2.1 _ hw2) (hX.2.2.2.2.1 _ hw3) hX.2.2.2.2.2.1.1 hP hD hS q0 q1 0 0 (gx_wA hq0) (gx_wA hq1) rfl rfl rfl (nn sp g1).1 (nn dp g2).1 (nn m0 g3).1 (by have := (nn sp g1).2; have := (nn m0 g3).2; omega) (by have := (nn dp g2).2; have := (nn m0 g3).2; omega) (fun _ _ => rfl) hfr hlo hd (fun H1 locs1 hP1 hD1 hS1 => ?_)
  have e : (gx_w lay Ω.1 Ω.2.1 v).set q1 (Ω.1 q1, .inl (Ω.2.1 0, n1, .inl (va_cpy (v.1 q0) (v.1 q1) sp.toNatClampNeg dp.toNatClampNeg m0.toNatClampNeg))) = gx_w lay Ω.1 Ω.2.1 (sA v q1 (va_cpy (v.1 q0) (v.1 q1) sp.toNatClampNeg dp.toNatClampNeg m0.toNatClampNeg)) := by
    generalize va_cpy (v.1 q0) (v.1 q1) sp.toNatClampNeg dp.toNatClampNeg m0.toNatClampNeg = f
    rw [← gx_wS (v := v) (v' := sA v q1 f) hq1 (fun a ha => if_neg ha) (fun _ _ => rfl)]
    show _ = (gx_w lay Ω.1 Ω.2.1 v).set q1 (Ω.1 q1, .inl (Ω.2.1 0, n1, .inl ((sA v q1 f).1 q1)))
    rw [show (sA v q1 f).1 q1 = f from if_pos rfl]
  rw [e] at hP1 hD1
  exact k _ h2 H1 locs1 ls hP1 hD1 hS1 hl
theorem gi_iret (hX : gx_X Γ Ω cc own nL ret) {x r : Int32} {v' : gV} (hr : ret = some .int) (hd : decode cc pc = .ok (.ireturn, 1)) (h : some (x, v) = some (r, v')) : gx_G Γ Ω lay (gx_Q Γ Ω lay (some (.int r)) v') nL v pc lv [.int x] := by
  subst hr
  cases h
  intro H locs ls hP hD hS hl
  exact W.iret hX.1 hX.2.1 hX.2.2.2.2.2.2.1 (fun t ht hW => ⟨rfl, by rw [ht]; exact hP, hS.F ht⟩) hS.2.2 hd hX.2.2.2.2.2.2.2
theorem gi_lret (hX : gx_X Γ Ω cc own nL ret) {x r : Int64} {v' : gV} (hr : ret = some .long) (hd : decode cc pc = .ok (.lreturn, 1)) (h : some (x, v) = some (r, v')) : gx_G Γ Ω lay (gx_Q Γ Ω lay (some (.long r)) v') nL v pc lv [.long x] := by
  subst hr
  cases h
  intro H locs ls hP hD hS hl
  exact W.lret hX.1 hX.2.1 hX.2.2.2.2.2.2.1 (fun t ht hW => ⟨rfl, by rw [ht]; exact hP, hS.F ht⟩) hS.2.2 hd hX.2.2.2.2.2.2.2
def gbo (x : Int32) : Bool := decide (x = 0 ∨ x = 1)
theorem gi_zret (hX : gx_X Γ Ω cc own nL ret) {x r : Int32} {v' : gV} (hr : ret = some .boolean) (hd : decode cc pc = .ok (.ireturn, 1)) (h : (if gbo x = true then some (x, v) else none) = some (r, v')) : gx_G Γ Ω lay (gx_Q Γ Ω lay (some (.int r)) v') nL v pc lv [.int x] := by
  subst hr
  obtain ⟨h1, h2⟩ := if_some h
  cases h2
  have hn : narrow .boolean (.int x) = .int x := by
    rcases of_decide_eq_true h1 with rfl | rfl <;> rfl
  intro H locs ls hP hD hS hl
  exact W.zret hX.1 hX.2.1 hX.2.2.2.2.2.2.1 hn (fun t ht hW => ⟨rfl, by rw [ht]; exact hP, hS.F ht⟩) hS.2.2 hd hX.2.2.2.2.2.2.2
theorem gi_vret (hX : gx_X Γ Ω cc own nL ret) {v' : gV} (hr : ret = none) (hd : decode cc pc = .ok (.return_, 1)) (h : some v = some v') : gx_G Γ Ω lay (gx_Q Γ Ω lay none v') nL v pc lv [] := by
  subst hr
  cases h
  intro H locs ls hP hD hS hl
  exact W.vret hX.1 hX.2.1 hX.2.2.2.2.2.2.1 (fun t ht hW => ⟨rfl, by rw [ht]; exact hP, hS.F ht⟩) hS.2.2 hd hX.2.2.2.2.2.2.2
theorem gi_aret (hX : gx_X Γ Ω cc own nL ret) {r q : Nat} {v' : gV} {C : String} (hr : ret = some (.object C)) (hd : decode cc pc = .ok (.areturn, 1)) (h : some (q, v) = some (r, v')) : gx_G Γ Ω lay (gx_Q Γ Ω lay (some (.ref (Ω.1 r))) v') nL v pc lv [.ref (Ω.1 q)] := by
  subst hr
  cases h
  intro H locs ls hP hD hS hl
  exact W.aret hX.1 hX.2.1 hX.2.2.2.2.2.2.1 (Or.inl ⟨C, rfl⟩) (Or.inr ⟨_, rfl⟩) (fun t ht hW => ⟨rfl, by rw [ht]; exact hP, hS.F ht⟩) hS.2.2 hd hX.2.2.2.2.2.2.2
end GX
theorem gx_good : GoodIn gU gU := fun _ h => ⟨h, good_of_word (List.mem_filter.mp h).2⟩
theorem gx_goodC {y : MethodName} {cc : ByteArray} {maxL : Nat} {ret : Option FieldType} (h : Cond.code y cc maxL ret ∈ gU) : GoodIn gU (.code y cc maxL ret :: gU) := by
  intro w hw
  rcases List.mem_cons.mp hw with rfl | hw
  · exact gx_good _ h
  · exact gx_good _ hw
/-- what the tables say of a method: an instance's, a static one -/
def gx_mv (C : String) (y : MethodName) (cc : ByteArray) (maxL : Nat) (ret : Option FieldType) (k : Nat) : Prop := Cond.instanceMethod y ∈ gU ∧ Cond.selects C y y ∈ gU ∧ Cond.initialized C ∈ gU ∧ Cond.code y cc maxL ret ∈ gU ∧ (y.cls = C ∧ y.cls ≠ "java/lang/invoke/MethodHandle" ∧ y.cls ≠ "java/lang/invoke/VarHandle" ∧ (parseMethodDescriptor y.desc).map (fun d => d.parameters.length) = some k)
def gx_ms (y : MethodName) (cc : ByteArray) (maxL : Nat) (ret : Option FieldType) (k : Nat) : Prop := Cond.static y ∈ gU ∧ Cond.initialized y.cls ∈ gU ∧ Cond.code y cc maxL ret ∈ gU ∧ (y.cls ≠ "java/lang/invoke/MethodHandle" ∧ y.cls ≠ "java/lang/invoke/VarHandle" ∧ (parseMethodDescriptor y.desc).map (fun d => d.parameters.length) = some k)
theorem gx_mv_words {own C : String} {idx : Nat} {y : MethodName} {cc : ByteArray} {maxL k : Nat} {ret : Option FieldType} (h : gx_mv C y cc maxL ret k) (hl : Cond.methodLink own idx y ∈ gU) : GoodIn gU (wsV own idx C y (.code y cc maxL ret :: gU)) := by
  intro w hw
  rcases List.mem_append.mp hw with hw | hw
  · have hm : w ∈ gU := by
      simp only [List.mem_cons, List.not_mem_nil, or_false] at hw
      rcases hw with rfl | rfl | rfl | rfl
      · exact hl
      · exact h.1
      · exact h.2.1
      · exact h.2.2.1
    exact gx_good _ hm
  · exact gx_goodC h.2.2.2.1 _ hw
theorem gx_blind {Ω : gO} {lay : List gk} {av : List Value} {v : gV} : FrameBlind (gx_Pc Ω lay av v) := fun a U g mk h => ⟨h.1, h.2.1, h.2.2.1, h.2.2.2.calling g mk a⟩
section GXC
variable {Γ : gC} {Ω : gO} {lay : List gk} {Q : State → Prop} {nL : Nat} {v : gV} {pc n : Nat} {lv : List (Nat × Value)} {st : List Value} {cc : ByteArray} {own : String} {ret : Option FieldType}
/-- what a call's run is, whatever its kind -/
def gx_Run (Γ : gC) (Ω : gO) (lay : List gk) (v : gV) (pc : Nat) (ls : Array Slot) (st0 rest : List Value) (a : Array Value) (H : Heap) (locs : List Loc) (rv : Option Value) (v1 : gV) : Prop := va_Run Γ.1 Γ.2.1 Γ.2.2.1 Γ.2.2.2.1 Γ.2.2.2.2.1 Γ.2.2.2.2.2.1 Γ.2.2.2.2.2.2.1 Γ.2.2.2.2.2.2.2.1 Γ.2.2.2.2.2.2.2.2.1 Γ.2.2.2.2.2.2.2.2.2 H locs 0 0 0 0 (F0 Γ.2.2.2.2.2.1 pc ls st0) rest (gx_Qc Ω lay rv v1 a) Ω.2.2.2
theorem gx_after {rv : Option Value} {v1 : gV} {a : Array Value} {st0 rest : List Value} {H : Heap} {locs : List Loc} {ls : Array Slot} (hr : gx_Run Γ Ω lay v pc ls st0 rest a H locs rv v1) (hD : va_D Ω.2.2.2 (gx_w lay Ω.1 Ω.2.1 v)) (hS : va_S Ω.2.2.2 Γ.2.2.2.2.1.heap H locs) (hl : lv_has ls nL lv) (k : gx_G Γ Ω lay Q nL v1 (pc + 3) lv (rv.toList ++ rest)) : gx_W Γ H locs Q (F0 Γ.2.2.2.2.2.1 pc ls st0) := by
  intro T hT X
  obtain ⟨w, st₀, t, T', L, h0, X', hL, e1, e2, ⟨hv, hP1, hz, hk⟩, stp⟩ := hr T hT X
  cases hv
  rw [h0] at hz hk
  obtain ⟨t2, a1, b1⟩ := k T'.heap (locs ++ L) ls (by rw [e1]; exact hP1) (gx_D hD)
    ⟨Nat.le_trans hS.1 (by rw [e1]; exact hz), fun q h1 h2 => by rw [e1, hk q (Nat.lt_of_lt_of_le h1 hS.1) h2]; exact hS.2.1 q h1 h2, fun q hq => by
      rcases List.mem_append.mp hq with h | h
      · exact hS.2.2 q h
      · exact hL q h⟩ hl T' rfl X'
  exact ⟨t2, stp t2 a1, b1⟩
theorem gi_virt (hX : gx_X Γ Ω cc own nL ret) {C : String} {T : u_T} {N ci q idx d d' maxL k0 : Nat} {t0 : Nat → FieldType} {tm : List (Option Nat)} {y : MethodName} {cy : ByteArray} {rt : Option FieldType} {As : List Value} {rv : Option Value} {v1 : gV} (hR : Γ.2.2.2.1 = gx_R d) (hc : gx_c ci C T N t0) (hq : lay[q]? = some (gk_o ci tm)) (hm : gx_mv C y cy maxL rt k0) (hw : Cond.methodLink own idx y ∈ gU) (hM : gx_M Γ.2.1 Ω lay y cy maxL rt d' (.ref (Ω.1 q) :: As) v rv v1) (hk : As.length = k0) (hdd : Nat.ble (d' + 1) d = true ∧ Nat.ble maxL 21 = true) (hst : Nat.ble (st.map fun v => v.category).sum 8 = true) (hd : decode cc pc = .ok (.invokevirtual idx, 3)) (hn : pc + 3 = n) {st0 : List Value} (hst0 : st0 = As.reverse ++ .ref (Ω.1 q) :: st) (k : gx_G Γ Ω lay Q nL v1 n lv (rv.toList ++ st)) : gx_G Γ Ω lay Q nL v pc lv st0 := by
  subst hn
  subst hst0
  intro H locs ls hP hD hS hl
  have h1 : d' + 1 ≤ d := Nat.le_of_ble_eq_true hdd.1
  have h2 : maxL ≤ 21 := Nat.le_of_ble_eq_true hdd.2
  refine gx_after (rest := st) (a := (Value.ref (Ω.1 q) :: As).toArray) (va_runV (nL := nL) ⟨hX.1, hX.2.1, hX.2.2.1, hX.2.2.2.1, hX.2.2.2.2.1⟩ hM (cwV k0 hX.2.2.2.2.1 (gx_mv_words hm hw) rfl rfl rfl hm.2.2.2.2 ⟨by rw [hR]; exact h1, by rw [hR]; show 8 + (maxL + 11) + 40 * d' ≤ 40 * d; omega⟩) ⟨gx_blind, va_recv hX.2.2.2.2.2.1.1 hP hc.1 (gx_wA hq), fun U hU hW => ⟨rfl, by rw [hU]; exact hP, hD, hX.2.2.2.2.2.1.warm hW⟩⟩ rfl hk hl.1 rfl (lv_room (Nat.le_of_ble_eq_true hst)) hd ⟨by rw [hR]; exact Nat.le_refl 0, by rw [hR]; exact Nat.le_refl 0⟩) hD hS hl k
theorem gi_stat (hX : gx_X Γ Ω cc own nL ret) {idx d d' maxL k0 : Nat} {y : MethodName} {cy : ByteArray} {rt : Option FieldType} {As : List Value} {rv : Option Value} {v1 : gV} (hR : Γ.2.2.2.1 = gx_R d) (hm : gx_ms y cy maxL rt k0) (hw : Cond.methodLink own idx y ∈ gU) (hM : gx_M Γ.2.1 Ω lay y cy maxL rt d' As v rv v1) (hk : As.length = k0) (hdd : Nat.ble (d' + 1) d = true ∧ Nat.ble maxL 21 = true) (hst : Nat.ble (st.map fun v => v.category).sum 8 = true) (hd : decode cc pc = .ok (.invokestatic idx, 3)) (hn : pc + 3 = n) {st0 : List Value} (hst0 : st0 = As.reverse ++ st) (k : gx_G Γ Ω lay Q nL v1 n lv (rv.toList ++ st)) : gx_G Γ Ω lay Q nL v pc lv st0 := by
  subst hn
  subst hst0
  intro H locs ls hP hD hS hl
  have h1 : d' + 1 ≤ d := Nat.le_of_ble_eq_true hdd.1
  have h2 : maxL ≤ 21 := Nat.le_of_ble_eq_true hdd.2
  refine gx_after (rest := st) (a := As.toArray) (va_runS (nL := nL) ⟨hX.1, hX.2.1, hX.2.2.1, hX.2.2.2.1, hX.2.2.2.2.1⟩ hM ⟨callB_of k0 hX.2.2.2.2.1 (gx_goodC hm.2.2.1) rfl rfl rfl (hX.2.2.2.2.1 _ hm.2.1) (hX.2.2.2.2.1 _ hw) hm.2.2.2 ⟨by rw [hR]; exact h1, by rw [hR]; show 8 + (maxL + 11) + 40 * d' ≤ 40 * d; omega⟩, hX.2.2.2.2.1 _ hm.1⟩ ⟨gx_blind, fun U hU hW => ⟨rfl, by rw [hU]; exact hP, hD, hX.2.2.2.2.2.1.warm hW⟩⟩ rfl hk hl.1 rfl (lv_room (Nat.le_of_ble_eq_true hst)) hd ⟨by rw [hR]; exact Nat.le_refl 0, by rw [hR]; exact Nat.le_refl 0⟩) hD hS hl k
theorem gi_statN (hX : gx_X Γ Ω cc own nL ret) {idx d d' maxL k0 : Nat} {host : String} {y : MethodName} {cy : ByteArray} {rt : Option FieldType} {As : List Value} {rv : Option Value} {v1 : gV} (hR : Γ.2.2.2.1 = gx_R d) (hm : gx_ms y cy maxL rt k0) (hw : va_Nw (.methodLinkNest own idx y host) Γ.2.2.2.2.1) (hM : gx_M Γ.2.1 Ω lay y cy maxL rt d' As v rv v1) (hk : As.length = k0) (hdd : Nat.ble (d' + 1) d = true ∧ Nat.ble maxL 21 = true) (hst : Nat.ble (st.map fun v => v.category).sum 8 = true) (hd : decode cc pc = .ok (.invokestatic idx, 3)) (hn : pc + 3 = n) {st0 : List Value} (hst0 : st0 = As.reverse ++ st) (k : gx_G Γ Ω lay Q nL v1 n lv (rv.toList ++ st)) : gx_G Γ Ω lay Q nL v pc lv st0 := by
  subst hn
  subst hst0
  intro H locs ls hP hD hS hl
  have h1 : d' + 1 ≤ d := Nat.le_of_ble_eq_true hdd.1
  have h2 : maxL ≤ 21 := Nat.le_of_ble_eq_true hdd.2
  refine gx_after (rest := st) (a := As.toArray) (va_runSN (nL := nL) ⟨hX.1, hX.2.1, hX.2.2.1, hX.2.2.2.1, hX.2.2.2.2.1⟩ hM ⟨va_cnB k0 hX.2.2.2.2.1 (gx_goodC hm.2.2.1) rfl rfl rfl hw (hX.2.2.2.2.1 _ hm.2.1) hm.2.2.2 ⟨by rw [hR]; exact h1, by rw [hR]; show 8 + (maxL + 11) + 40 * d' ≤ 40 * d; omega⟩, hX.2.2.2.2.1 _ hm.1, trivial⟩ ⟨gx_blind, fun U hU hW => ⟨rfl, by rw [hU]; exact hP, hD, hX.2.2.2.2.2.1.warm hW⟩⟩ rfl hk hl.1 rfl (lv_room (Nat.le_of_ble_eq_true hst)) hd ⟨by rw [hR]; exact Nat.le_refl 0, by rw [hR]; exact Nat.le_refl 0⟩) hD hS hl k
theorem bi_some {ρ : Type} {o : Option (Int32 × gV)} {k : Int32 → gV → Option ρ} {r : ρ} (h : bi o k = some r) : ∃ x v, o = some (x, v) ∧ k x v = some r := by
  cases o with
  | none => cases h
  | some a => exact ⟨a.1, a.2, rfl, h⟩
theorem bj_some {ρ : Type} {o : Option (Int64 × gV)} {k : Int64 → gV → Option ρ} {r : ρ} (h : bj o k = some r) : ∃ x v, o = some (x, v) ∧ k x v = some r := by
  cases o with
  | none => cases h
  | some a => exact ⟨a.1, a.2, rfl, h⟩
theorem br_some {ρ : Type} {o : Option (Nat × gV)} {ok : Nat → Bool} {k : Nat → gV → Option ρ} {r : ρ} (h : br o ok k = some r) : ∃ x v, o = some (x, v) ∧ ok x = true ∧ k x v = some r := by
  cases o with
  | none => cases h
  | some a => exact ⟨a.1, a.2, rfl, (if_some h).1, (if_some h).2⟩
theorem bv_some {ρ : Type} {o : Option gV} {k : gV → Option ρ} {r : ρ} (h : bv o k = some r) : ∃ v, o = some v ∧ k v = some r := by
  cases o with
  | none => cases h
  | some a => exact ⟨a, rfl, h⟩
end GXC
end
