section
-- ===== PART A: goes FIRST, ahead of the names: the tables' words, and 'selects' of the private methods out of them =====
/-- a private method of a class that the tables say can be made, by its rows of tables_1 -/
def lw_okq (q : MethodName × Nat) : Prop := (q.1.cls ≠ "java/lang/invoke/MethodHandle" ∧ q.1.cls ≠ "java/lang/invoke/VarHandle") ∧ Cond.instantiable q.1.cls q.2 ∈ tables_1 ∧ Cond.privateMethod q.1 ∈ tables_1 ∧ Cond.instanceMethod q.1 ∈ tables_1
theorem lw_p0 : lw_okq (⟨"BridgedCatalogs$History", "savedAt", "(I)LBridgedCatalogs$Tree;"⟩, 3) := ⟨⟨by decide +kernel, by decide +kernel⟩, List.mem_of_getElem? (i := 215) (by decide +kernel), List.mem_of_getElem? (i := 253) (by decide +kernel), List.mem_of_getElem? (i := 254) (by decide +kernel)⟩
theorem lw_p1 : lw_okq (⟨"BridgedCatalogs$Tree", "buildUpFrom", "(I)I"⟩, 11) := ⟨⟨by decide +kernel, by decide +kernel⟩, List.mem_of_getElem? (i := 26) (by decide +kernel), List.mem_of_getElem? (i := 328) (by decide +kernel), List.mem_of_getElem? (i := 329) (by decide +kernel)⟩
theorem lw_p2 : lw_okq (⟨"BridgedCatalogs$Tree", "entriesOf", "(I)LBridgedCatalogs$Row;"⟩, 11) := ⟨⟨by decide +kernel, by decide +kernel⟩, List.mem_of_getElem? (i := 26) (by decide +kernel), List.mem_of_getElem? (i := 332) (by decide +kernel), List.mem_of_getElem? (i := 333) (by decide +kernel)⟩
theorem lw_p3 : lw_okq (⟨"BridgedCatalogs$Listing", "layBridges", "(LBridgedCatalogs$Row;LBridgedCatalogs$Row;)V"⟩, 5) := ⟨⟨by decide +kernel, by decide +kernel⟩, List.mem_of_getElem? (i := 53) (by decide +kernel), List.mem_of_getElem? (i := 344) (by decide +kernel), List.mem_of_getElem? (i := 345) (by decide +kernel)⟩
theorem lw_p4 : lw_okq (⟨"BridgedCatalogs", "withNode", "(JI)J"⟩, 3) := ⟨⟨by decide +kernel, by decide +kernel⟩, List.mem_of_getElem? (i := 18) (by decide +kernel), List.mem_of_getElem? (i := 368) (by decide +kernel), List.mem_of_getElem? (i := 369) (by decide +kernel)⟩
theorem lw_p5 : lw_okq (⟨"BridgedCatalogs", "requireNode", "(I)V"⟩, 3) := ⟨⟨by decide +kernel, by decide +kernel⟩, List.mem_of_getElem? (i := 18) (by decide +kernel), List.mem_of_getElem? (i := 377) (by decide +kernel), List.mem_of_getElem? (i := 378) (by decide +kernel)⟩
theorem lw_p6 : lw_okq (⟨"java/lang/Throwable", "fillInStackTrace", "(I)Ljava/lang/Throwable;"⟩, 6) := ⟨⟨by decide +kernel, by decide +kernel⟩, List.mem_of_getElem? (i := 419) (by decide +kernel), List.mem_of_getElem? (i := 417) (by decide +kernel), List.mem_of_getElem? (i := 418) (by decide +kernel)⟩
theorem lw_p7 : lw_okq (⟨"BridgedCatalogs", "require", "(Z)V"⟩, 3) := ⟨⟨by decide +kernel, by decide +kernel⟩, List.mem_of_getElem? (i := 18) (by decide +kernel), List.mem_of_getElem? (i := 475) (by decide +kernel), List.mem_of_getElem? (i := 476) (by decide +kernel)⟩
theorem lw_p8 : lw_okq (⟨"BridgedCatalogs", "withEntry", "(JLBridgedCatalogs$Listing;I)J"⟩, 3) := ⟨⟨by decide +kernel, by decide +kernel⟩, List.mem_of_getElem? (i := 18) (by decide +kernel), List.mem_of_getElem? (i := 486) (by decide +kernel), List.mem_of_getElem? (i := 487) (by decide +kernel)⟩
theorem lw_p9 : lw_okq (⟨"BridgedCatalogs$Walk", "layPath", "(LBridgedCatalogs$Tree;I)V"⟩, 7) := ⟨⟨by decide +kernel, by decide +kernel⟩, List.mem_of_getElem? (i := 180) (by decide +kernel), List.mem_of_getElem? (i := 498) (by decide +kernel), List.mem_of_getElem? (i := 499) (by decide +kernel)⟩
theorem lw_p10 : lw_okq (⟨"BridgedCatalogs$Walk", "searchPath", "(LBridgedCatalogs$Tree;I)V"⟩, 7) := ⟨⟨by decide +kernel, by decide +kernel⟩, List.mem_of_getElem? (i := 180) (by decide +kernel), List.mem_of_getElem? (i := 505) (by decide +kernel), List.mem_of_getElem? (i := 506) (by decide +kernel)⟩
theorem lw_p11 : lw_okq (⟨"BridgedCatalogs$Walk", "start", "()V"⟩, 7) := ⟨⟨by decide +kernel, by decide +kernel⟩, List.mem_of_getElem? (i := 180) (by decide +kernel), List.mem_of_getElem? (i := 509) (by decide +kernel), List.mem_of_getElem? (i := 510) (by decide +kernel)⟩
theorem lw_p12 : lw_okq (⟨"BridgedCatalogs$Walk", "halve", "(LBridgedCatalogs$Row;I)I"⟩, 7) := ⟨⟨by decide +kernel, by decide +kernel⟩, List.mem_of_getElem? (i := 180) (by decide +kernel), List.mem_of_getElem? (i := 515) (by decide +kernel), List.mem_of_getElem? (i := 516) (by decide +kernel)⟩
theorem lw_p13 : lw_okq (⟨"BridgedCatalogs$Walk", "stepBack", "(LBridgedCatalogs$Row;II)I"⟩, 7) := ⟨⟨by decide +kernel, by decide +kernel⟩, List.mem_of_getElem? (i := 180) (by decide +kernel), List.mem_of_getElem? (i := 520) (by decide +kernel), List.mem_of_getElem? (i := 521) (by decide +kernel)⟩
theorem lw_p14 : lw_okq (⟨"BridgedCatalogs$Walk", "answerAt", "(LBridgedCatalogs$Tree;III)V"⟩, 7) := ⟨⟨by decide +kernel, by decide +kernel⟩, List.mem_of_getElem? (i := 180) (by decide +kernel), List.mem_of_getElem? (i := 524) (by decide +kernel), List.mem_of_getElem? (i := 525) (by decide +kernel)⟩
theorem lw_p15 : lw_okq (⟨"BridgedCatalogs", "requireKey", "(I)V"⟩, 3) := ⟨⟨by decide +kernel, by decide +kernel⟩, List.mem_of_getElem? (i := 18) (by decide +kernel), List.mem_of_getElem? (i := 595) (by decide +kernel), List.mem_of_getElem? (i := 596) (by decide +kernel)⟩
def lw_privs_1 : List (MethodName × Nat) := [(⟨"BridgedCatalogs$History", "savedAt", "(I)LBridgedCatalogs$Tree;"⟩, 3), (⟨"BridgedCatalogs$Tree", "buildUpFrom", "(I)I"⟩, 11), (⟨"BridgedCatalogs$Tree", "entriesOf", "(I)LBridgedCatalogs$Row;"⟩, 11), (⟨"BridgedCatalogs$Listing", "layBridges", "(LBridgedCatalogs$Row;LBridgedCatalogs$Row;)V"⟩, 5), (⟨"BridgedCatalogs", "withNode", "(JI)J"⟩, 3), (⟨"BridgedCatalogs", "requireNode", "(I)V"⟩, 3), (⟨"java/lang/Throwable", "fillInStackTrace", "(I)Ljava/lang/Throwable;"⟩, 6), (⟨"BridgedCatalogs", "require", "(Z)V"⟩, 3), (⟨"BridgedCatalogs", "withEntry", "(JLBridgedCatalogs$Listing;I)J"⟩, 3), (⟨"BridgedCatalogs$Walk", "layPath", "(LBridgedCatalogs$Tree;I)V"⟩, 7), (⟨"BridgedCatalogs$Walk", "searchPath", "(LBridgedCatalogs$Tree;I)V"⟩, 7), (⟨"BridgedCatalogs$Walk", "start", "()V"⟩, 7), (⟨"BridgedCatalogs$Walk", "halve", "(LBridgedCatalogs$Row;I)I"⟩, 7), (⟨"BridgedCatalogs$Walk", "stepBack", "(LBridgedCatalogs$Row;II)I"⟩, 7), (⟨"BridgedCatalogs$Walk", "answerAt", "(LBridgedCatalogs$Tree;III)V"⟩, 7), (⟨"BridgedCatalogs", "requireKey", "(I)V"⟩, 3)]
theorem lw_r1 : ∀ q ∈ lw_privs_1, lw_okq q := List.forall_mem_cons.mpr ⟨lw_p0, List.forall_mem_cons.mpr ⟨lw_p1, List.forall_mem_cons.mpr ⟨lw_p2, List.forall_mem_cons.mpr ⟨lw_p3, List.forall_mem_cons.mpr ⟨lw_p4, List.forall_mem_cons.mpr ⟨lw_p5, List.forall_mem_cons.mpr ⟨lw_p6, List.forall_mem_cons.mpr ⟨lw_p7, List.forall_mem_cons.mpr ⟨lw_p8, List.forall_mem_cons.mpr ⟨lw_p9, List.forall_mem_cons.mpr ⟨lw_p10, List.forall_mem_cons.mpr ⟨lw_p11, List.forall_mem_cons.mpr ⟨lw_p12, List.forall_mem_cons.mpr ⟨lw_p13, List.forall_mem_cons.mpr ⟨lw_p14, List.forall_mem_cons.mpr ⟨lw_p15, fun _ h => absurd h List.not_mem_nil⟩⟩⟩⟩⟩⟩⟩⟩⟩⟩⟩⟩⟩⟩⟩⟩
theorem lw_p16 : lw_okq (⟨"BridgedCatalogs", "walkTo", "(II)LBridgedCatalogs$Walk;"⟩, 3) := ⟨⟨by decide +kernel, by decide +kernel⟩, List.mem_of_getElem? (i := 18) (by decide +kernel), List.mem_of_getElem? (i := 671) (by decide +kernel), List.mem_of_getElem? (i := 672) (by decide +kernel)⟩
theorem lw_p17 : lw_okq (⟨"BridgedCatalogs", "requireGoal", "(I)V"⟩, 3) := ⟨⟨by decide +kernel, by decide +kernel⟩, List.mem_of_getElem? (i := 18) (by decide +kernel), List.mem_of_getElem? (i := 675) (by decide +kernel), List.mem_of_getElem? (i := 676) (by decide +kernel)⟩
theorem lw_p18 : lw_okq (⟨"BridgedCatalogsModel", "isNode", "(I)Z"⟩, 12) := ⟨⟨by decide +kernel, by decide +kernel⟩, List.mem_of_getElem? (i := 784) (by decide +kernel), List.mem_of_getElem? (i := 835) (by decide +kernel), List.mem_of_getElem? (i := 836) (by decide +kernel)⟩
theorem lw_p19 : lw_okq (⟨"BridgedCatalogsModel", "fails", "(I)I"⟩, 12) := ⟨⟨by decide +kernel, by decide +kernel⟩, List.mem_of_getElem? (i := 784) (by decide +kernel), List.mem_of_getElem? (i := 842) (by decide +kernel), List.mem_of_getElem? (i := 843) (by decide +kernel)⟩
theorem lw_p20 : lw_okq (⟨"BridgedCatalogsModel", "of", "(II)I"⟩, 12) := ⟨⟨by decide +kernel, by decide +kernel⟩, List.mem_of_getElem? (i := 784) (by decide +kernel), List.mem_of_getElem? (i := 846) (by decide +kernel), List.mem_of_getElem? (i := 847) (by decide +kernel)⟩
theorem lw_p21 : lw_okq (⟨"BridgedCatalogsModel", "hold", "()V"⟩, 12) := ⟨⟨by decide +kernel, by decide +kernel⟩, List.mem_of_getElem? (i := 784) (by decide +kernel), List.mem_of_getElem? (i := 850) (by decide +kernel), List.mem_of_getElem? (i := 851) (by decide +kernel)⟩
theorem lw_p22 : lw_okq (⟨"BridgedCatalogsModel", "puts", "(III)V"⟩, 12) := ⟨⟨by decide +kernel, by decide +kernel⟩, List.mem_of_getElem? (i := 784) (by decide +kernel), List.mem_of_getElem? (i := 854) (by decide +kernel), List.mem_of_getElem? (i := 855) (by decide +kernel)⟩
theorem lw_p23 : lw_okq (⟨"BridgedCatalogsModel", "buildsUp", "(I)I"⟩, 12) := ⟨⟨by decide +kernel, by decide +kernel⟩, List.mem_of_getElem? (i := 784) (by decide +kernel), List.mem_of_getElem? (i := 858) (by decide +kernel), List.mem_of_getElem? (i := 859) (by decide +kernel)⟩
theorem lw_p24 : lw_okq (⟨"BridgedCatalogsModel", "builds", "(I)V"⟩, 12) := ⟨⟨by decide +kernel, by decide +kernel⟩, List.mem_of_getElem? (i := 784) (by decide +kernel), List.mem_of_getElem? (i := 862) (by decide +kernel), List.mem_of_getElem? (i := 863) (by decide +kernel)⟩
theorem lw_p25 : lw_okq (⟨"BridgedCatalogsModel", "enters", "(III)V"⟩, 12) := ⟨⟨by decide +kernel, by decide +kernel⟩, List.mem_of_getElem? (i := 784) (by decide +kernel), List.mem_of_getElem? (i := 866) (by decide +kernel), List.mem_of_getElem? (i := 867) (by decide +kernel)⟩
theorem lw_p26 : lw_okq (⟨"BridgedCatalogsModel", "less", "(III)I"⟩, 12) := ⟨⟨by decide +kernel, by decide +kernel⟩, List.mem_of_getElem? (i := 784) (by decide +kernel), List.mem_of_getElem? (i := 870) (by decide +kernel), List.mem_of_getElem? (i := 871) (by decide +kernel)⟩
theorem lw_p27 : lw_okq (⟨"BridgedCatalogsModel", "ends", "(I)I"⟩, 12) := ⟨⟨by decide +kernel, by decide +kernel⟩, List.mem_of_getElem? (i := 784) (by decide +kernel), List.mem_of_getElem? (i := 874) (by decide +kernel), List.mem_of_getElem? (i := 875) (by decide +kernel)⟩
theorem lw_p28 : lw_okq (⟨"BridgedCatalogsModel", "tells", "(I)I"⟩, 12) := ⟨⟨by decide +kernel, by decide +kernel⟩, List.mem_of_getElem? (i := 784) (by decide +kernel), List.mem_of_getElem? (i := 878) (by decide +kernel), List.mem_of_getElem? (i := 879) (by decide +kernel)⟩
theorem lw_p29 : lw_okq (⟨"BridgedCatalogsModel", "has", "(II)Z"⟩, 12) := ⟨⟨by decide +kernel, by decide +kernel⟩, List.mem_of_getElem? (i := 784) (by decide +kernel), List.mem_of_getElem? (i := 889) (by decide +kernel), List.mem_of_getElem? (i := 890) (by decide +kernel)⟩
theorem lw_p30 : lw_okq (⟨"BridgedCatalogsModel", "inBase", "(II)I"⟩, 12) := ⟨⟨by decide +kernel, by decide +kernel⟩, List.mem_of_getElem? (i := 784) (by decide +kernel), List.mem_of_getElem? (i := 893) (by decide +kernel), List.mem_of_getElem? (i := 894) (by decide +kernel)⟩
theorem lw_p31 : lw_okq (⟨"BridgedCatalogsModel", "inBuffer", "(II)I"⟩, 12) := ⟨⟨by decide +kernel, by decide +kernel⟩, List.mem_of_getElem? (i := 784) (by decide +kernel), List.mem_of_getElem? (i := 897) (by decide +kernel), List.mem_of_getElem? (i := 898) (by decide +kernel)⟩
def lw_privs_2 : List (MethodName × Nat) := [(⟨"BridgedCatalogs", "walkTo", "(II)LBridgedCatalogs$Walk;"⟩, 3), (⟨"BridgedCatalogs", "requireGoal", "(I)V"⟩, 3), (⟨"BridgedCatalogsModel", "isNode", "(I)Z"⟩, 12), (⟨"BridgedCatalogsModel", "fails", "(I)I"⟩, 12), (⟨"BridgedCatalogsModel", "of", "(II)I"⟩, 12), (⟨"BridgedCatalogsModel", "hold", "()V"⟩, 12), (⟨"BridgedCatalogsModel", "puts", "(III)V"⟩, 12), (⟨"BridgedCatalogsModel", "buildsUp", "(I)I"⟩, 12), (⟨"BridgedCatalogsModel", "builds", "(I)V"⟩, 12), (⟨"BridgedCatalogsModel", "enters", "(III)V"⟩, 12), (⟨"BridgedCatalogsModel", "less", "(III)I"⟩, 12), (⟨"BridgedCatalogsModel", "ends", "(I)I"⟩, 12), (⟨"BridgedCatalogsModel", "tells", "(I)I"⟩, 12), (⟨"BridgedCatalogsModel", "has", "(II)Z"⟩, 12), (⟨"BridgedCatalogsModel", "inBase", "(II)I"⟩, 12), (⟨"BridgedCatalogsModel", "inBuffer", "(II)I"⟩, 12)]
theorem lw_r2 : ∀ q ∈ lw_privs_2, lw_okq q := List.forall_mem_cons.mpr ⟨lw_p16, List.forall_mem_cons.mpr ⟨lw_p17, List.forall_mem_cons.mpr ⟨lw_p18, List.forall_mem_cons.mpr ⟨lw_p19, List.forall_mem_cons.mpr ⟨lw_p20, List.forall_mem_cons.mpr ⟨lw_p21, List.forall_mem_cons.mpr ⟨lw_p22, List.forall_mem_cons.mpr ⟨lw_p23, List.forall_mem_cons.mpr ⟨lw_p24, List.forall_mem_cons.mpr ⟨lw_p25, List.forall_mem_cons.mpr ⟨lw_p26, List.forall_mem_cons.mpr ⟨lw_p27, List.forall_mem_cons.mpr ⟨lw_p28, List.forall_mem_cons.mpr ⟨lw_p29, List.forall_mem_cons.mpr ⟨lw_p30, List.forall_mem_cons.mpr ⟨lw_p31, fun _ h => absurd h List.not_mem_nil⟩⟩⟩⟩⟩⟩⟩⟩⟩⟩⟩⟩⟩⟩⟩⟩
theorem lw_p32 : lw_okq (⟨"BridgedCatalogsModel", "keys", "(I)I"⟩, 12) := ⟨⟨by decide +kernel, by decide +kernel⟩, List.mem_of_getElem? (i := 784) (by decide +kernel), List.mem_of_getElem? (i := 901) (by decide +kernel), List.mem_of_getElem? (i := 902) (by decide +kernel)⟩
theorem lw_p33 : lw_okq (⟨"BridgedCatalogsModel", "marked", "(I)I"⟩, 12) := ⟨⟨by decide +kernel, by decide +kernel⟩, List.mem_of_getElem? (i := 784) (by decide +kernel), List.mem_of_getElem? (i := 905) (by decide +kernel), List.mem_of_getElem? (i := 906) (by decide +kernel)⟩
theorem lw_p34 : lw_okq (⟨"BridgedCatalogsModel", "comes", "(II)V"⟩, 12) := ⟨⟨by decide +kernel, by decide +kernel⟩, List.mem_of_getElem? (i := 784) (by decide +kernel), List.mem_of_getElem? (i := 909) (by decide +kernel), List.mem_of_getElem? (i := 910) (by decide +kernel)⟩
theorem lw_p35 : lw_okq (⟨"BridgedCatalogsModel", "rebuilds", "(I)I"⟩, 12) := ⟨⟨by decide +kernel, by decide +kernel⟩, List.mem_of_getElem? (i := 784) (by decide +kernel), List.mem_of_getElem? (i := 913) (by decide +kernel), List.mem_of_getElem? (i := 914) (by decide +kernel)⟩
theorem lw_p36 : lw_okq (⟨"BridgedCatalogsModel", "next", "(II)I"⟩, 12) := ⟨⟨by decide +kernel, by decide +kernel⟩, List.mem_of_getElem? (i := 784) (by decide +kernel), List.mem_of_getElem? (i := 917) (by decide +kernel), List.mem_of_getElem? (i := 918) (by decide +kernel)⟩
theorem lw_p37 : lw_okq (⟨"BridgedCatalogsModel", "goes", "(II)V"⟩, 12) := ⟨⟨by decide +kernel, by decide +kernel⟩, List.mem_of_getElem? (i := 784) (by decide +kernel), List.mem_of_getElem? (i := 925) (by decide +kernel), List.mem_of_getElem? (i := 926) (by decide +kernel)⟩
theorem lw_p38 : lw_okq (⟨"BridgedCatalogsModel", "entriesOfAll", "()I"⟩, 12) := ⟨⟨by decide +kernel, by decide +kernel⟩, List.mem_of_getElem? (i := 784) (by decide +kernel), List.mem_of_getElem? (i := 945) (by decide +kernel), List.mem_of_getElem? (i := 946) (by decide +kernel)⟩
theorem lw_p39 : lw_okq (⟨"BridgedCatalogsModel", "lays", "(I)V"⟩, 12) := ⟨⟨by decide +kernel, by decide +kernel⟩, List.mem_of_getElem? (i := 784) (by decide +kernel), List.mem_of_getElem? (i := 956) (by decide +kernel), List.mem_of_getElem? (i := 957) (by decide +kernel)⟩
theorem lw_p40 : lw_okq (⟨"BridgedCatalogsModel", "seeks", "(I)V"⟩, 12) := ⟨⟨by decide +kernel, by decide +kernel⟩, List.mem_of_getElem? (i := 784) (by decide +kernel), List.mem_of_getElem? (i := 960) (by decide +kernel), List.mem_of_getElem? (i := 961) (by decide +kernel)⟩
theorem lw_p41 : lw_okq (⟨"BridgedCatalogsModel", "halves", "(IIII)I"⟩, 12) := ⟨⟨by decide +kernel, by decide +kernel⟩, List.mem_of_getElem? (i := 784) (by decide +kernel), List.mem_of_getElem? (i := 964) (by decide +kernel), List.mem_of_getElem? (i := 965) (by decide +kernel)⟩
theorem lw_p42 : lw_okq (⟨"BridgedCatalogsModel", "goesBack", "(III)I"⟩, 12) := ⟨⟨by decide +kernel, by decide +kernel⟩, List.mem_of_getElem? (i := 784) (by decide +kernel), List.mem_of_getElem? (i := 968) (by decide +kernel), List.mem_of_getElem? (i := 969) (by decide +kernel)⟩
theorem lw_p43 : lw_okq (⟨"BridgedCatalogsModel", "answerFrom", "(III)I"⟩, 12) := ⟨⟨by decide +kernel, by decide +kernel⟩, List.mem_of_getElem? (i := 784) (by decide +kernel), List.mem_of_getElem? (i := 972) (by decide +kernel), List.mem_of_getElem? (i := 973) (by decide +kernel)⟩
theorem lw_p44 : lw_okq (⟨"BridgedCatalogsModel", "asks", "(II)I"⟩, 12) := ⟨⟨by decide +kernel, by decide +kernel⟩, List.mem_of_getElem? (i := 784) (by decide +kernel), List.mem_of_getElem? (i := 980) (by decide +kernel), List.mem_of_getElem? (i := 981) (by decide +kernel)⟩
theorem lw_p45 : lw_okq (⟨"BridgedCatalogsModel", "leastStep", "()I"⟩, 12) := ⟨⟨by decide +kernel, by decide +kernel⟩, List.mem_of_getElem? (i := 784) (by decide +kernel), List.mem_of_getElem? (i := 996) (by decide +kernel), List.mem_of_getElem? (i := 997) (by decide +kernel)⟩
theorem lw_p46 : lw_okq (⟨"BridgedCatalogsModel", "worstOf", "(I)I"⟩, 12) := ⟨⟨by decide +kernel, by decide +kernel⟩, List.mem_of_getElem? (i := 784) (by decide +kernel), List.mem_of_getElem? (i := 1008) (by decide +kernel), List.mem_of_getElem? (i := 1009) (by decide +kernel)⟩
theorem lw_p47 : lw_okq (⟨"BridgedCatalogsModel", "value", "(II)I"⟩, 12) := ⟨⟨by decide +kernel, by decide +kernel⟩, List.mem_of_getElem? (i := 784) (by decide +kernel), List.mem_of_getElem? (i := 1020) (by decide +kernel), List.mem_of_getElem? (i := 1021) (by decide +kernel)⟩
def lw_privs_3 : List (MethodName × Nat) := [(⟨"BridgedCatalogsModel", "keys", "(I)I"⟩, 12), (⟨"BridgedCatalogsModel", "marked", "(I)I"⟩, 12), (⟨"BridgedCatalogsModel", "comes", "(II)V"⟩, 12), (⟨"BridgedCatalogsModel", "rebuilds", "(I)I"⟩, 12), (⟨"BridgedCatalogsModel", "next", "(II)I"⟩, 12), (⟨"BridgedCatalogsModel", "goes", "(II)V"⟩, 12), (⟨"BridgedCatalogsModel", "entriesOfAll", "()I"⟩, 12), (⟨"BridgedCatalogsModel", "lays", "(I)V"⟩, 12), (⟨"BridgedCatalogsModel", "seeks", "(I)V"⟩, 12), (⟨"BridgedCatalogsModel", "halves", "(IIII)I"⟩, 12), (⟨"BridgedCatalogsModel", "goesBack", "(III)I"⟩, 12), (⟨"BridgedCatalogsModel", "answerFrom", "(III)I"⟩, 12), (⟨"BridgedCatalogsModel", "asks", "(II)I"⟩, 12), (⟨"BridgedCatalogsModel", "leastStep", "()I"⟩, 12), (⟨"BridgedCatalogsModel", "worstOf", "(I)I"⟩, 12), (⟨"BridgedCatalogsModel", "value", "(II)I"⟩, 12)]
theorem lw_r3 : ∀ q ∈ lw_privs_3, lw_okq q := List.forall_mem_cons.mpr ⟨lw_p32, List.forall_mem_cons.mpr ⟨lw_p33, List.forall_mem_cons.mpr ⟨lw_p34, List.forall_mem_cons.mpr ⟨lw_p35, List.forall_mem_cons.mpr ⟨lw_p36, List.forall_mem_cons.mpr ⟨lw_p37, List.forall_mem_cons.mpr ⟨lw_p38, List.forall_mem_cons.mpr ⟨lw_p39, List.forall_mem_cons.mpr ⟨lw_p40, List.forall_mem_cons.mpr ⟨lw_p41, List.forall_mem_cons.mpr ⟨lw_p42, List.forall_mem_cons.mpr ⟨lw_p43, List.forall_mem_cons.mpr ⟨lw_p44, List.forall_mem_cons.mpr ⟨lw_p45, List.forall_mem_cons.mpr ⟨lw_p46, List.forall_mem_cons.mpr ⟨lw_p47, fun _ h => absurd h List.not_mem_nil⟩⟩⟩⟩⟩⟩⟩⟩⟩⟩⟩⟩⟩⟩⟩⟩
theorem lw_p48 : lw_okq (⟨"BridgedCatalogsModel", "depth", "(I)I"⟩, 12) := ⟨⟨by decide +kernel, by decide +kernel⟩, List.mem_of_getElem? (i := 784) (by decide +kernel), List.mem_of_getElem? (i := 1024) (by decide +kernel), List.mem_of_getElem? (i := 1025) (by decide +kernel)⟩
theorem lw_p49 : lw_okq (⟨"BridgedCatalogsModel", "baseOf", "(II)I"⟩, 12) := ⟨⟨by decide +kernel, by decide +kernel⟩, List.mem_of_getElem? (i := 784) (by decide +kernel), List.mem_of_getElem? (i := 1036) (by decide +kernel), List.mem_of_getElem? (i := 1037) (by decide +kernel)⟩
theorem lw_p50 : lw_okq (⟨"BridgedCatalogsModel", "counted", "(I)I"⟩, 12) := ⟨⟨by decide +kernel, by decide +kernel⟩, List.mem_of_getElem? (i := 784) (by decide +kernel), List.mem_of_getElem? (i := 1056) (by decide +kernel), List.mem_of_getElem? (i := 1057) (by decide +kernel)⟩
theorem lw_p51 : lw_okq (⟨"BridgedCatalogsModel", "mix", "(I)V"⟩, 12) := ⟨⟨by decide +kernel, by decide +kernel⟩, List.mem_of_getElem? (i := 784) (by decide +kernel), List.mem_of_getElem? (i := 1069) (by decide +kernel), List.mem_of_getElem? (i := 1070) (by decide +kernel)⟩
theorem lw_p52 : lw_okq (⟨"BridgedCatalogsModel", "mixNode", "(I)V"⟩, 12) := ⟨⟨by decide +kernel, by decide +kernel⟩, List.mem_of_getElem? (i := 784) (by decide +kernel), List.mem_of_getElem? (i := 1074) (by decide +kernel), List.mem_of_getElem? (i := 1075) (by decide +kernel)⟩
def lw_privs_4 : List (MethodName × Nat) := [(⟨"BridgedCatalogsModel", "depth", "(I)I"⟩, 12), (⟨"BridgedCatalogsModel", "baseOf", "(II)I"⟩, 12), (⟨"BridgedCatalogsModel", "counted", "(I)I"⟩, 12), (⟨"BridgedCatalogsModel", "mix", "(I)V"⟩, 12), (⟨"BridgedCatalogsModel", "mixNode", "(I)V"⟩, 12)]
theorem lw_r4 : ∀ q ∈ lw_privs_4, lw_okq q := List.forall_mem_cons.mpr ⟨lw_p48, List.forall_mem_cons.mpr ⟨lw_p49, List.forall_mem_cons.mpr ⟨lw_p50, List.forall_mem_cons.mpr ⟨lw_p51, List.forall_mem_cons.mpr ⟨lw_p52, fun _ h => absurd h List.not_mem_nil⟩⟩⟩⟩⟩
def lw_privs : List (MethodName × Nat) := lw_privs_1 ++ (lw_privs_2 ++ (lw_privs_3 ++ (lw_privs_4)))
def lw_tbl : List Cond := k2_sels lw_privs ++ tables_1
theorem lw_privs_ok : ∀ q ∈ lw_privs, lw_okq q := by
  show ∀ q ∈ lw_privs_1 ++ (lw_privs_2 ++ (lw_privs_3 ++ (lw_privs_4))), lw_okq q
  exact List.forall_mem_append.mpr ⟨lw_r1, List.forall_mem_append.mpr ⟨lw_r2, List.forall_mem_append.mpr ⟨lw_r3, lw_r4⟩⟩⟩
end
section
/-! ===== BEGIN words of one list among another's, by their places ===== -/
theorem goodIn_r {big : List Cond} (ws : List Cond) (ps : List Nat) (hp : ws = ps.filterMap (fun i => big[i]?)) (h : ws.all goodWord = true) : GoodIn big ws := by
  intro w hw
  have h1 := List.all_eq_true.mp h w hw
  rw [hp] at hw
  obtain ⟨i, -, hi⟩ := List.mem_filterMap.mp hw
  have hm : w ∈ big := by first | exact List.mem_of_getElem? hi | exact List.getElem?_mem hi
  exact ⟨hm, good_of_word h1⟩
theorem goodIn_app {big a b : List Cond} (ha : GoodIn big a) (hb : GoodIn big b) : GoodIn big (a ++ b) := fun w h => (List.mem_append.mp h).elim (ha w) (hb w)
theorem goodIn_ca {big a b : List Cond} {c : Cond} (ha : GoodIn big (c :: a)) (hb : GoodIn big b) : GoodIn big (c :: (a ++ b)) := fun w h => (List.mem_cons.mp h).elim (fun e => ha w (List.mem_cons.mpr (Or.inl e))) (fun h => (List.mem_append.mp h).elim (fun h => ha w (List.mem_cons.mpr (Or.inr h))) (hb w))
theorem goodIn_sub {big ws : List Cond} (hm : ∀ w ∈ ws, w ∈ big) (h : ws.all goodWord = true) : GoodIn big ws := fun w hw => ⟨hm w hw, good_of_word (List.all_eq_true.mp h w hw)⟩
/-! ===== END ===== -/

/-! ===== BEGIN exceptions that leave a method, and their catching by the caller (launches without stack traces) ===== -/
section VXA
/-! The laws vx_back, vx_callV, vx_callS, vx_callSW, vx_throw0, vx_throwS follow proofs of the library, with one case more: JvmDerived/Free/Laws.lean (Back.of_free), Shelf42/LK1.lean (callV, callS), Shelf/KitTraced.lean (throwNew0V, throwNewS). -/
/-- where a method has thrown q: the class by its name, the cell, what was written, the world -/
def vx_T (XC : String → State → State → Prop) (st : State) (q : Addr) (t : State) (mc ms : Nat) (free : Addr → Prop) : Prop :=
  ∃ (E : String) (ce : Cell) (L : List Loc), XC E st t ∧ t.heap[q]? = some ce ∧ ce.vm = .none ∧ st.vm.findClass E = some ce.cls ∧ st.WarmedH t.vm ∧ st.sameButNew ({ t with vm := st.vm } : State) L mc ms ∧ ∀ z ∈ L, free z.base
def vx_Q (Qc : Array Value → State → Outcome → State → Prop) (XC : String → State → State → Prop) (mc ms : Nat) (free : Addr → Prop) : Array Value → State → Outcome → State → Prop := fun a st o t =>
  (Qc a st o t ∧ ∃ L, FrameEnd st o t L mc ms ∧ ∀ q ∈ L, free q.base) ∨ ∃ q, o = .threw q ∧ vx_T XC st q t mc ms free
/-- a callee that returns or throws -/
def vx_Met (l : Launch) (y : MethodName) (ws : List Cond) (rm : Room) (Pc : Array Value → State → Prop) (Qc : Array Value → State → Outcome → State → Prop) (XC : String → State → State → Prop) (mc ms : Nat) (free : Addr → Prop) : Prop :=
  MetFree l y (headSpec ws rm) Pc (fun _ _ _ _ _ => True) (vx_Q Qc XC mc ms free)
def vx_Post (XC : String → State → State → Prop) (mc ms : Nat) (free : Addr → Prop) : Pt → Array Value → Addr → Pt → Prop := fun A a q B =>
  ∃ (g : JFrame) (mk : MethodId) (t : State) (L : List Loc) (E : String) (ce : Cell), B.U.heap = t.heap ∧ B.U.vm = t.vm ∧ XC E (A.U.calling g mk a) t ∧ t.heap[q]? = some ce ∧ ce.vm = .none ∧ A.U.vm.findClass E = some ce.cls ∧ B.locs = A.locs ++ L ∧ (∀ z ∈ L, free z.base) ∧ B.cells = A.cells + mc ∧ B.slots = A.slots + ms
def vx_Back (l : Launch) (R : Room) (p : Program) (e : Env) (below : List Frame) (s : State) (sargs : Array Value) (y : MethodName) (len W9 : Nat)
    (Pre : Pt → Array Value → Prop) (Post : Pt → Array Value → Option Value → Pt → Prop) (PostX : Pt → Array Value → Addr → Pt → Prop) : Prop :=
  ∀ (m : MethodId) (meth : Method) (c : Code) (A : Pt) (g : JFrame) (ig : Instr) (mk : MethodId) (a : Array Value),
    Stand p l e R s m sargs below meth c A.U A.locs A.cells A.slots → g.method = m → g.locals.size = c.maxLocals → decode c.code g.pc = .ok (ig, len) →
    2 * g.monitorRoom + (g.stack.map fun v => v.category).sum ≤ W9 → A.U.methodNamed? y = some mk → Pre A a →
    (∃ (v : Option Value) (B : Pt), Stand p l e R s m sargs below meth c B.U B.locs B.cells B.slots ∧ Post A a v B ∧
      Steps p.tables e below (doInvoke e (A.U.setTop g) [] mk a).1 (B.U.setTop { g with pc := g.pc + len, stack := v.toList ++ g.stack })) ∨
    (∃ (q : Addr) (B : Pt), Stand p l e R s m sargs below meth c B.U B.locs B.cells B.slots ∧ PostX A a q B ∧
      Steps p.tables e below (doInvoke e (A.U.setTop g) [] mk a).1 ((B.U.setTop g).pushFrame (.throwing q)))
section Payer
variable {l : Launch} {R : Room} {p : Program} {e : Env} {below : List Frame} {s : State} {sargs : Array Value} {y : MethodName} {len W9 : Nat}
theorem vx_back {ws : List Cond} {rm : Room} {Pc : Array Value → State → Prop} {Qc : Array Value → State → Outcome → State → Prop} {XC : String → State → State → Prop} {mc ms : Nat} {free : Addr → Prop} {bytes : ByteArray} {maxL : Nat} {ret : Option FieldType}
    (hM : vx_Met l y ws rm Pc Qc XC mc ms free) (hblind : FrameBlind Pc) (hrc : rm.cells = mc) (hrs : rm.slots = ms)
    (hframes : rm.frames + 1 ≤ R.frames) (hlocals : W9 + (maxL + 11) + rm.locals ≤ R.locals)
    (hws : ∀ w ∈ ws, ∀ a' U, s.WarmedH U.vm → w.before a' U = true) (hcode : Cond.code y bytes maxL ret ∈ ws) (hinit : ∀ a' U, s.WarmedH U.vm → (Cond.initialized y.cls).before a' U = true) :
    vx_Back l R p e below s sargs y len W9 (PreOf R mc ms Pc) (PostOf Qc mc ms free) (vx_Post XC mc ms free) := by
  intro m meth c A g ig mk a X hg hsize hdg hW hn hp
  have h1 : (headSpec ws rm).pre.before a A.U = true := atoms_intro fun w hw => hws w hw _ _ X.warmed
  have h2 : (Cond.code y bytes maxL ret).before a A.U = true := hws _ hcode _ _ X.warmed
  have h3 : (Cond.initialized y.cls).before a A.U = true := hinit _ _ X.warmed
  have h4 : A.cells + (headSpec ws rm).room.cells ≤ R.cells := by rw [show (headSpec ws rm).room.cells = mc from hrc]; exact hp.1
  have h5 : A.slots + (headSpec ws rm).room.slots ≤ R.slots := by rw [show (headSpec ws rm).room.slots = ms from hrs]; exact hp.2.1
  have hPc : Pc a (A.U.calling g mk a) := hblind _ _ _ _ hp.2.2
  obtain ⟨U, Ls, c0, s0⟩ := A
  dsimp only [Pt.U, Pt.locs, Pt.cells, Pt.slots] at h1 h2 h3 h4 h5 X hn hPc ⊢
  obtain ⟨methY, cY, hmY, hcY, -, hlY, -, -, -, -⟩ := Cond.code_spec hn h2
  obtain ⟨kY, hkY, -⟩ := className_of_methodNamed hn
  have hinitY : kY.init = .initialized := Cond.initialized_spec (findClass_of_methodNamed hn) hkY h3
  have h : At U g.method c below := by rw [hg]; exact X.here
  have hlocals9 : W9 + (maxL + 11) + (headSpec ws rm).room.locals ≤ R.locals := hlocals
  have happ : (headSpec ws rm).appliesLoose y e.platform (U.calling g mk a) = true :=
    Spec.appliesLoose_calling (g := g) h hdg hn hkY hinitY
      (X.room_calling (g := g) (R' := (headSpec ws rm).room) hsize hmY hcY hframes (by rw [hlY]; omega) h4 h5) h1
  obtain ⟨mid, hmid⟩ := h.above
  have hfr : (U.setTop g).frames = (.java g :: mid) ++ below := by rw [State.frames_setTop' g h.top, hmid]; rfl
  obtain ⟨o, s₂, hsteps, -, hend, hq⟩ := Steps.callFree hM p X.admits X.cas X.clock (acts := []) hfr happ hPc trivial
  have hq' : vx_Q Qc XC mc ms free a (U.calling g mk a) o s₂ := hq
  rw [State.frames_setTop' g h.top] at hend
  obtain ⟨g₀, hg0⟩ := Option.isSome_iff_exists.mp h.top
  obtain ⟨r, hr⟩ := State.topJava?_eq_some.mp hg0
  have hr' : (({ U with heap := s₂.heap, slotsUsed := s₂.slotsUsed } : State).setVm s₂.vm).frames = .java g₀ :: r := hr
  rcases hq' with ⟨hqc, L, hfe, hL⟩ | ⟨q, rfl, E, ce, L, hx, hce, hcv, hcl, hW₂, hsm, hL⟩
  · obtain ⟨⟨v, rfl⟩, hW₂, e2, q2, q3, q4, q5, q6⟩ := id hfe
    have e3 : s₂ = ({ (U.calling g mk a).setFrames s₂.frames with heap := s₂.heap, slotsUsed := s₂.slotsUsed } : State).setVm s₂.vm := by
      have : s₂ = ({ s₂ with vm := (U.calling g mk a).vm } : State).setVm s₂.vm := rfl
      rw [e2] at this
      exact this
    obtain ⟨c₂, i₂, len₂, hc₂, hd₂, hf₂⟩ := hend
    have hW' : U.WarmedH s₂.vm := hW₂
    have hcc : c₂ = c := by
      have h1 : s₂.code? g.method = U.code? g.method := by
        rw [State.code?_eq, State.code?_eq, hW'.alike.method?]
      exact Option.some.inj (hc₂.symm.trans (h1.trans h.code))
    subst hcc
    have hlen : len₂ = len := by rw [hdg] at hd₂; cases hd₂; rfl
    subst hlen
    have hs₂ : s₂ = (({ U with heap := s₂.heap, slotsUsed := s₂.slotsUsed } : State).setVm s₂.vm).setTop { g with pc := g.pc + len₂, stack := v.toList ++ g.stack } := by
      refine e3.trans ?_
      rw [hf₂, State.calling_eq h.top, State.setFrames_setFrames, State.setTop_of_frames _ hr', hr]
      rfl
    have hsame : U.sameButNew ({ U with heap := s₂.heap, slotsUsed := s₂.slotsUsed } : State) L mc ms := by
      refine ⟨?_, q2, q3, q4, q5, q6⟩
      obtain ⟨t, ht, -⟩ := State.frames_cons hr
      show ({ U with heap := s₂.heap, slotsUsed := s₂.slotsUsed } : State) = { U.setFrames U.frames with heap := s₂.heap, slotsUsed := s₂.slotsUsed }
      rw [State.setFrames_self ht]
    subst hg
    refine Or.inl ⟨v, ⟨(({ U with heap := s₂.heap, slotsUsed := s₂.slotsUsed } : State).setVm s₂.vm), Ls ++ L, c0 + mc, s0 + ms⟩,
      ⟨X.admits, X.cas, X.clock, X.frames, X.room, X.hears, X.method, X.code, (X.here.setHeapUsed s₂.heap s₂.slotsUsed).setVm hW'.alike, X.tail, State.WarmedH.trans X.warmed hW', X.limits, X.bytes, X.same.trans (hsame.setVm s.vm)⟩,
      ⟨g, mk, s₂, L, rfl, rfl, hqc, rfl, hL, rfl, rfl⟩, ?_⟩
    show Steps p.tables e below _ ((({ U with heap := s₂.heap, slotsUsed := s₂.slotsUsed } : State).setVm s₂.vm).setTop { g with pc := g.pc + len₂, stack := v.toList ++ g.stack })
    rw [← hs₂]
    exact hsteps
  · obtain ⟨e2, q2, q3, q4, q5, q6⟩ := id hsm
    have e3 : s₂ = ({ (U.calling g mk a).setFrames s₂.frames with heap := s₂.heap, slotsUsed := s₂.slotsUsed } : State).setVm s₂.vm := by
      have : s₂ = ({ s₂ with vm := (U.calling g mk a).vm } : State).setVm s₂.vm := rfl
      rw [e2] at this
      exact this
    have hf₂ : s₂.frames = .throwing q :: .java g :: U.frames.tail := hend
    have hW' : U.WarmedH s₂.vm := hW₂
    have hs₂ : s₂ = ((({ U with heap := s₂.heap, slotsUsed := s₂.slotsUsed } : State).setVm s₂.vm).setTop g).pushFrame (.throwing q) := by
      refine e3.trans ?_
      rw [hf₂, State.calling_eq h.top, State.setFrames_setFrames, State.pushFrame, State.frames_setTop _ hr', State.setTop_of_frames _ hr', State.setFrames_setFrames, hr]
      rfl
    have hsame : U.sameButNew ({ U with heap := s₂.heap, slotsUsed := s₂.slotsUsed } : State) L mc ms := by
      refine ⟨?_, q2, q3, q4, q5, q6⟩
      obtain ⟨t, ht, -⟩ := State.frames_cons hr
      show ({ U with heap := s₂.heap, slotsUsed := s₂.slotsUsed } : State) = { U.setFrames U.frames with heap := s₂.heap, slotsUsed := s₂.slotsUsed }
      rw [State.setFrames_self ht]
    subst hg
    refine Or.inr ⟨q, ⟨(({ U with heap := s₂.heap, slotsUsed := s₂.slotsUsed } : State).setVm s₂.vm), Ls ++ L, c0 + mc, s0 + ms⟩,
      ⟨X.admits, X.cas, X.clock, X.frames, X.room, X.hears, X.method, X.code, (X.here.setHeapUsed s₂.heap s₂.slotsUsed).setVm hW'.alike, X.tail, State.WarmedH.trans X.warmed hW', X.limits, X.bytes, X.same.trans (hsame.setVm s.vm)⟩,
      ⟨g, mk, s₂, L, E, ce, rfl, rfl, hx, hce, hcv, hcl, rfl, hL, rfl, rfl⟩, ?_⟩
    show Steps p.tables e below _ (((({ U with heap := s₂.heap, slotsUsed := s₂.slotsUsed } : State).setVm s₂.vm).setTop g).pushFrame (.throwing q))
    rw [← hs₂]
    exact hsteps
end Payer
section Calls
variable {p : Program} {l : Launch} {e : Env} {R : Room} {s : State} {m : MethodId} {args : Array Value} {below : List Frame} {meth : Method} {c : Code} {T : State} {locs : List Loc} {cells slots : Nat}
theorem vx_callV (X : Stand p l e R s m args below meth c T locs cells slots) (hexec : p.tables.exec = Jvm.exec) {own C : String} {index : Nat} {y : MethodName} {bytes : ByteArray} {maxL : Nat} {ret : Option FieldType}
    (hown : s.vm.findClass own = some m.cls) (hlink : (Cond.methodLink own index y).before args s = true) (hinst : (Cond.instanceMethod y).before args s = true) (hsel : (Cond.selects C y y).before args s = true)
    (hcode : (Cond.code y bytes maxL ret).before args s = true) (hy : y.cls ≠ "java/lang/invoke/MethodHandle" ∧ y.cls ≠ "java/lang/invoke/VarHandle")
    {W9 : Nat} {Pre : Pt → Array Value → Prop} {Post : Pt → Array Value → Option Value → Pt → Prop} {PostX : Pt → Array Value → Addr → Pt → Prop} (hK : vx_Back l R p e below s args y 3 W9 Pre Post PostX)
    {b : Addr} {cellB : Cell} (hcell : T.heap[b]? = some cellB) (hobj : cellB.vm.isStatics = false) (hcls : s.vm.findClass C = some cellB.cls)
    {g : JFrame} (hg : g.method = m) (hsize : g.locals.size = c.maxLocals) {argsL rest : List Value} (hlen : ∀ sig, parseMethodDescriptor y.desc = some sig → argsL.length = sig.parameters.length)
    (hstack : g.stack = argsL.reverse ++ .ref b :: rest) (hW : 2 * g.monitorRoom + (rest.map fun v => v.category).sum ≤ W9) (hdg : decode c.code g.pc = .ok (.invokevirtual index, 3))
    (hpre : ∀ vm₁, s.WarmedH vm₁ → Pre ⟨T.setVm vm₁, locs, cells, slots⟩ (Value.ref b :: argsL).toArray) :
    (∃ (v : Option Value) (vm₁ : Vm) (B : Pt), s.WarmedH vm₁ ∧ Stand p l e R s m args below meth c B.U B.locs B.cells B.slots ∧ Post ⟨T.setVm vm₁, locs, cells, slots⟩ (Value.ref b :: argsL).toArray v B ∧
      ∀ target, Steps p.tables e below (B.U.setTop { g with pc := g.pc + 3, stack := v.toList ++ rest }) target → Steps p.tables e below (T.setTop g) target) ∨
    (∃ (q : Addr) (vm₁ : Vm) (B : Pt), s.WarmedH vm₁ ∧ Stand p l e R s m args below meth c B.U B.locs B.cells B.slots ∧ PostX ⟨T.setVm vm₁, locs, cells, slots⟩ (Value.ref b :: argsL).toArray q B ∧
      Steps p.tables e below (T.setTop g) ((B.U.setTop { g with stack := rest }).pushFrame (.throwing q))) := by
  obtain ⟨mk, methM, hnamed, hmethM, hstM, habM⟩ := Cond.instanceMethod_spec hinst
  obtain ⟨methM', cM, hmethM', -, -, -, -, -, -, hsigM⟩ := Cond.code_spec hnamed hcode
  cases hmethM.symm.trans hmethM'
  obtain ⟨c2, r2, m2, q1, q2, q3, q4, kP, hkP, hkPi⟩ := Cond.selects_spec hsel
  cases hcls.symm.trans q1
  cases (State.methodFound?_of_named hnamed hy).symm.trans q2
  cases hnamed.symm.trans q3
  have hselP : selectMethod e.platform s.vm cellB.cls mk = .method mk := by rw [Launch.admits_selectMethod X.admits]; exact q4
  obtain ⟨vm₁, X₁, hstep₁⟩ := X.invokevirtual hexec hown hlink hnamed hmethM hstM hkP hkPi hy (a := b) (cell := cellB) hcell
    (fun z h => by rw [h] at hobj; cases hobj) hselP hmethM habM hkP hkPi (g := g) hg (argsL := argsL) (rest := rest) (hlen _ hsigM) hstack hdg
  rcases hK m meth c ⟨T.setVm vm₁, locs, cells, slots⟩ { g with stack := rest } (.invokevirtual index) mk (Value.ref b :: argsL).toArray X₁ hg hsize hdg hW (X₁.named hnamed) (hpre vm₁ X₁.warmed) with ⟨v, B, X', hpost, hsteps⟩ | ⟨q, B, X', hpost, hsteps⟩
  · exact Or.inl ⟨v, vm₁, B, X₁.warmed, X', hpost, fun target h => hstep₁ _ fun acts => by rw [doInvoke_state]; exact hsteps.trans h⟩
  · exact Or.inr ⟨q, vm₁, B, X₁.warmed, X', hpost, hstep₁ _ fun acts => by rw [doInvoke_state]; exact hsteps⟩
theorem vx_callS (X : Stand p l e R s m args below meth c T locs cells slots) (hexec : p.tables.exec = Jvm.exec) {own : String} {index : Nat} {y : MethodName} {bytes : ByteArray} {maxL : Nat} {ret : Option FieldType}
    (hown : s.vm.findClass own = some m.cls) (hlink : (Cond.methodLink own index y).before args s = true) (hstat : (Cond.static y).before args s = true) (hinit : (Cond.initialized y.cls).before args s = true)
    (hcode : (Cond.code y bytes maxL ret).before args s = true) (hy : y.cls ≠ "java/lang/invoke/MethodHandle" ∧ y.cls ≠ "java/lang/invoke/VarHandle")
    {W9 : Nat} {Pre : Pt → Array Value → Prop} {Post : Pt → Array Value → Option Value → Pt → Prop} {PostX : Pt → Array Value → Addr → Pt → Prop} (hK : vx_Back l R p e below s args y 3 W9 Pre Post PostX)
    {g : JFrame} (hg : g.method = m) (hsize : g.locals.size = c.maxLocals) {argsL rest : List Value} (hlen : ∀ sig, parseMethodDescriptor y.desc = some sig → argsL.length = sig.parameters.length)
    (hstack : g.stack = argsL.reverse ++ rest) (hW : 2 * g.monitorRoom + (rest.map fun v => v.category).sum ≤ W9) (hdg : decode c.code g.pc = .ok (.invokestatic index, 3))
    (hpre : ∀ vm₁, s.WarmedH vm₁ → Pre ⟨T.setVm vm₁, locs, cells, slots⟩ argsL.toArray) :
    (∃ (v : Option Value) (vm₁ : Vm) (B : Pt), s.WarmedH vm₁ ∧ Stand p l e R s m args below meth c B.U B.locs B.cells B.slots ∧ Post ⟨T.setVm vm₁, locs, cells, slots⟩ argsL.toArray v B ∧
      ∀ target, Steps p.tables e below (B.U.setTop { g with pc := g.pc + 3, stack := v.toList ++ rest }) target → Steps p.tables e below (T.setTop g) target) ∨
    (∃ (q : Addr) (vm₁ : Vm) (B : Pt), s.WarmedH vm₁ ∧ Stand p l e R s m args below meth c B.U B.locs B.cells B.slots ∧ PostX ⟨T.setVm vm₁, locs, cells, slots⟩ argsL.toArray q B ∧
      Steps p.tables e below (T.setTop g) ((B.U.setTop { g with stack := rest }).pushFrame (.throwing q))) := by
  obtain ⟨mk, hnamed⟩ := Cond.code_named hcode
  obtain ⟨methM, cM, hmethM, -, -, -, -, -, -, hsigM⟩ := Cond.code_spec hnamed hcode
  have hstatic : methM.isStatic = true := Cond.static_spec hnamed hmethM hstat
  obtain ⟨kP, hkP, -⟩ := className_of_methodNamed hnamed
  have hinitP : kP.init = .initialized := Cond.initialized_spec (findClass_of_methodNamed hnamed) hkP hinit
  obtain ⟨vm₁, X₁, hstep₁⟩ := X.invokestatic hexec hown hlink hnamed hmethM hstatic hkP hinitP hy (g := g) hg (argsL := argsL) (rest := rest) (hlen _ hsigM) hstack hdg
  rcases hK m meth c ⟨T.setVm vm₁, locs, cells, slots⟩ { g with stack := rest } (.invokestatic index) mk argsL.toArray X₁ hg hsize hdg hW (X₁.named hnamed) (hpre vm₁ X₁.warmed) with ⟨v, B, X', hpost, hsteps⟩ | ⟨q, B, X', hpost, hsteps⟩
  · exact Or.inl ⟨v, vm₁, B, X₁.warmed, X', hpost, fun target h => hstep₁ _ fun acts => by rw [doInvoke_state]; exact hsteps.trans h⟩
  · exact Or.inr ⟨q, vm₁, B, X₁.warmed, X', hpost, hstep₁ _ fun acts => by rw [doInvoke_state]; exact hsteps⟩
end Calls
theorem vx_cls {s : State} {T : State} {vm₁ : Vm} {E : String} {k : ClassId} (hW : s.WarmedH vm₁) (h : (T.setVm vm₁).vm.findClass E = some k) : s.vm.findClass E = some k := by
  have h1 : vm₁.findClass E = some k := h
  rw [hW.alike.findClass] at h1
  exact h1
/-- the method's frame g, with q thrown over it -/
def vx_W (p : Program) (l : Launch) (e : Env) (R : Room) (s : State) (m : MethodId) (args : Array Value) (below : List Frame) (meth : Method) (c : Code) (H : Heap) (locs : List Loc) (cells slots : Nat) (Q : State → Prop) (g : JFrame) (q : Addr) : Prop :=
  ∀ T : State, T.heap = H → Stand p l e R s m args below meth c T locs cells slots → ∃ t, Steps p.tables e below ((T.setTop g).pushFrame (.throwing q)) t ∧ Q t
def vx_Run (p : Program) (l : Launch) (e : Env) (R : Room) (s : State) (m : MethodId) (args : Array Value) (below : List Frame) (meth : Method) (c : Code) (H : Heap) (locs : List Loc) (cells slots mc ms : Nat) (g : JFrame) (rest : List Value) (Qa : State → Outcome → State → Prop) (XC : String → State → State → Prop) (free : Addr → Prop) : Prop :=
  ∀ T : State, T.heap = H → Stand p l e R s m args below meth c T locs cells slots →
    (∃ (v : Option Value) (st₀ t T' : State) (L : List Loc), st₀.heap = H ∧ Stand p l e R s m args below meth c T' (locs ++ L) (cells + mc) (slots + ms) ∧ (∀ q ∈ L, free q.base) ∧ T'.heap = t.heap ∧ T'.vm = t.vm ∧ Qa st₀ (.returned v) t ∧
      Goes p e below T g T' { g with pc := g.pc + 3, stack := v.toList ++ rest }) ∨
    (∃ (q : Addr) (st₀ t T' : State) (L : List Loc) (E : String) (ce : Cell), st₀.heap = H ∧ Stand p l e R s m args below meth c T' (locs ++ L) (cells + mc) (slots + ms) ∧ (∀ z ∈ L, free z.base) ∧ T'.heap = t.heap ∧ T'.vm = t.vm ∧ XC E st₀ t ∧ t.heap[q]? = some ce ∧ ce.vm = .none ∧ s.vm.findClass E = some ce.cls ∧
      Steps p.tables e below (T.setTop g) ((T'.setTop { g with stack := rest }).pushFrame (.throwing q)))
def vx_X {S : Type} (px : S → Prop) (B : String → S → State → Prop) (A : Nat → Prop) : String → State → State → Prop := fun E st t => ∃ u : S, px u ∧ B E u t ∧ va_F A st t
section Runs
variable {p : Program} {l : Launch} {e : Env} {R : Room} {s : State} {m : MethodId} {args : Array Value} {below : List Frame} {meth : Method} {c : Code} {H : Heap} {locs : List Loc} {cells slots : Nat}
variable {y : MethodName} {bytes cc : ByteArray} {maxL nL mc ms n index : Nat} {ret : Option FieldType} {ws : List Cond} {rm : Room} {Pc : Array Value → State → Prop} {Qc : Array Value → State → Outcome → State → Prop} {XC : String → State → State → Prop} {free : Addr → Prop} {Ts : List Cond} {own C : String} {b : Addr} {As rest : List Value} {g : JFrame}
theorem vx_callBack (cb : CallB R s args own index y bytes maxL ret ws rm mc ms n) (hM : vx_Met l y ws rm Pc Qc XC mc ms free) (hbl : FrameBlind Pc) : vx_Back l R p e below s args y 3 8 (PreOf R mc ms Pc) (PostOf Qc mc ms free) (vx_Post XC mc ms free) := by
  obtain ⟨hrc, hrs, hfr, hlo, hws, hcw, -, hini, -⟩ := cb
  exact vx_back (bytes := bytes) (maxL := maxL) (ret := ret) hM hbl hrc hrs hfr hlo hws hcw (fun a' U hW => word_at hW (Or.inl (by first | rfl | simp [Cond.onTables, Cond.keeps, Cond.steady])) hini)
theorem vx_runV (S : CallFix p m c cc nL s args Ts own) (hM : vx_Met l y ws rm Pc Qc XC mc ms free) (cw : CallW R s args own C index y bytes maxL ret ws rm mc ms n) (hp : PreV s H C b Pc As)
    (hg : g.method = m) (hn : As.length = n) (hsize : g.locals.size = nL) (hstack : g.stack = As.reverse ++ .ref b :: rest) (hW : 2 * g.monitorRoom + (rest.map fun v => v.category).sum ≤ 8) (hdg : decode cc g.pc = .ok (.invokevirtual index, 3)) (hf : cells + mc ≤ R.cells ∧ slots + ms ≤ R.slots) :
    vx_Run p l e R s m args below meth c H locs cells slots mc ms g rest (Qc (Value.ref b :: As).toArray) XC free := by
  have hK : vx_Back l R p e below s args y 3 8 (PreOf R mc ms Pc) (PostOf Qc mc ms free) (vx_Post XC mc ms free) := vx_callBack cw.1 hM hp.1
  obtain ⟨⟨-, -, -, -, -, -, hcode, -, hy, hlen, hl⟩, hin, hse⟩ := cw
  obtain ⟨hx, hb, hml, ho, -⟩ := S
  obtain ⟨-, ⟨cellB, hcB, hoB, hclB⟩, hPc⟩ := hp
  intro T hT X
  rcases vx_callV X hx (C := C) (bytes := bytes) (maxL := maxL) (ret := ret) ho hl hin hse hcode hy hK (by rw [hT]; exact hcB) hoB hclB hg (hsize.trans hml.symm) (argsL := As) (rest := rest) (fun sig h => hn.trans (hlen sig h)) hstack hW (by rw [hb]; exact hdg)
    (fun vm₁ hW₁ => ⟨hf.1, hf.2, hPc (T.setVm vm₁) hT hW₁⟩) with ⟨v, vm₁, ⟨U', l2, c2, s2⟩, hW₁, X', ⟨g', mk, t, L, e1, e2, hq, h1, hL, h2, h3⟩, st⟩ | ⟨q, vm₁, ⟨U', l2, c2, s2⟩, hW₁, X', ⟨g', mk, t, L, E, ce, e1, e2, hq, hce, hcv, hcl, h1, hL, h2, h3⟩, st⟩
  · dsimp only [Pt.U, Pt.locs, Pt.cells, Pt.slots] at X' e1 e2 h1 h2 h3 st
    subst h1; subst h2; subst h3
    exact Or.inl ⟨v, (T.setVm vm₁).calling g' mk (Value.ref b :: As).toArray, t, U', L, hT, X', hL, e1, e2, hq, st⟩
  · dsimp only [Pt.U, Pt.locs, Pt.cells, Pt.slots] at X' e1 e2 h1 h2 h3 st hcl
    subst h1; subst h2; subst h3
    exact Or.inr ⟨q, (T.setVm vm₁).calling g' mk (Value.ref b :: As).toArray, t, U', L, E, ce, hT, X', hL, e1, e2, hq, hce, hcv, vx_cls hW₁ hcl, st⟩
theorem vx_runS (S : CallFix p m c cc nL s args Ts own) (hM : vx_Met l y ws rm Pc Qc XC mc ms free) (cw : CallB R s args own index y bytes maxL ret ws rm mc ms n ∧ (Cond.static y).before args s = true) (hp : PreS s H Pc As)
    (hg : g.method = m) (hn : As.length = n) (hsize : g.locals.size = nL) (hstack : g.stack = As.reverse ++ rest) (hW : 2 * g.monitorRoom + (rest.map fun v => v.category).sum ≤ 8) (hdg : decode cc g.pc = .ok (.invokestatic index, 3)) (hf : cells + mc ≤ R.cells ∧ slots + ms ≤ R.slots) :
    vx_Run p l e R s m args below meth c H locs cells slots mc ms g rest (Qc As.toArray) XC free := by
  have hK : vx_Back l R p e below s args y 3 8 (PreOf R mc ms Pc) (PostOf Qc mc ms free) (vx_Post XC mc ms free) := vx_callBack cw.1 hM hp.1
  obtain ⟨⟨-, -, -, -, -, -, hcode, hini, hy, hlen, hl⟩, hstt⟩ := cw
  obtain ⟨hx, hb, hml, ho, -⟩ := S
  intro T hT X
  rcases vx_callS X hx (bytes := bytes) (maxL := maxL) (ret := ret) ho hl hstt hini hcode hy hK hg (hsize.trans hml.symm) (argsL := As) (rest := rest) (fun sig h => hn.trans (hlen sig h)) hstack hW (by rw [hb]; exact hdg)
    (fun vm₁ hW₁ => ⟨hf.1, hf.2, hp.2 (T.setVm vm₁) hT hW₁⟩) with ⟨v, vm₁, ⟨U', l2, c2, s2⟩, hW₁, X', ⟨g', mk, t, L, e1, e2, hq, h1, hL, h2, h3⟩, st⟩ | ⟨q, vm₁, ⟨U', l2, c2, s2⟩, hW₁, X', ⟨g', mk, t, L, E, ce, e1, e2, hq, hce, hcv, hcl, h1, hL, h2, h3⟩, st⟩
  · dsimp only [Pt.U, Pt.locs, Pt.cells, Pt.slots] at X' e1 e2 h1 h2 h3 st
    subst h1; subst h2; subst h3
    exact Or.inl ⟨v, (T.setVm vm₁).calling g' mk As.toArray, t, U', L, hT, X', hL, e1, e2, hq, st⟩
  · dsimp only [Pt.U, Pt.locs, Pt.cells, Pt.slots] at X' e1 e2 h1 h2 h3 st hcl
    subst h1; subst h2; subst h3
    exact Or.inr ⟨q, (T.setVm vm₁).calling g' mk As.toArray, t, U', L, E, ce, hT, X', hL, e1, e2, hq, hce, hcv, vx_cls hW₁ hcl, st⟩
end Runs
section Rows
variable {p : Program} {l : Launch} {e : Env} {R : Room} {s : State} {m : MethodId} {args : Array Value} {below : List Frame} {meth : Method} {c : Code} {H : Heap} {locs : List Loc} {cells slots : Nat} {Q : State → Prop}
variable {mc ms : Nat} {free : Addr → Prop} {A0 A1 : Nat → Prop} {H0 : Heap} {a : Array Value} {pc : Nat} {ls : Array Slot} {st0 rest : List Value}
theorem vx_keep {st₀ t T' : State} {L : List Loc} (h0 : st₀.heap = H) (e1 : T'.heap = t.heap) (hS : va_S A0 H0 H locs) (hA : ∀ q, q < H.size → A1 q → A0 q) (hf : ∀ q, free q → A0 q) (hL : ∀ q ∈ L, free q.base) (hF : va_F A1 st₀ t) :
    H.size ≤ T'.heap.size ∧ (∀ q : Nat, q < H.size → ¬ A1 q → T'.heap[q]? = H[q]?) ∧ va_S A0 H0 T'.heap (locs ++ L) := by
  obtain ⟨hz, hk⟩ := hF
  rw [h0] at hz hk
  exact ⟨by rw [e1]; exact hz, fun q h1 h2 => by rw [e1]; exact hk q h1 h2,
    ⟨Nat.le_trans hS.1 (by rw [e1]; exact hz), fun q h1 h2 => by rw [e1, hk q (Nat.lt_of_lt_of_le h1 hS.1) (fun z => h2 (hA q (Nat.lt_of_lt_of_le h1 hS.1) z))]; exact hS.2.1 q h1 h2, fun q hq => by
      rcases List.mem_append.mp hq with h | h
      · exact hS.2.2 q h
      · exact hf _ (hL q h)⟩⟩
theorem vx_calli {S SX : Type} {post : Int32 → S → Prop} {px : SX → Prop} {B : S → State → Prop} {BX : String → SX → State → Prop} {AX : Nat → Prop} (hr : vx_Run p l e R s m args below meth c H locs cells slots mc ms (F0 m pc ls st0) rest (va_Qi post B A1 a) (vx_X px BX AX) free) (hS : va_S A0 H0 H locs) (hA : ∀ q, q < H.size → A1 q → A0 q) (hf : ∀ q, free q → A0 q) (hAX : ∀ q, q < H.size → AX q → A0 q)
    (kx : ∀ (E : String) (ce : Cell) (q9 : Addr) (u : SX) (t : State) (H1 : Heap) (locs1 : List Loc), t.heap = H1 → s.vm.Alike t.vm → px u → BX E u t → H.size ≤ H1.size → (∀ q : Nat, q < H.size → ¬ AX q → H1[q]? = H[q]?) → va_S A0 H0 H1 locs1 → H1[q9]? = some ce → ce.vm = .none → s.vm.findClass E = some ce.cls → vx_W p l e R s m args below meth c H1 locs1 (cells + mc) (slots + ms) Q (F0 m pc ls rest) q9)
    (kk : ∀ (r : Int32) (u : S) (t : State) (H1 : Heap) (locs1 : List Loc), t.heap = H1 → s.vm.Alike t.vm → post r u → B u t → H.size ≤ H1.size → (∀ q : Nat, q < H.size → ¬ A1 q → H1[q]? = H[q]?) → va_S A0 H0 H1 locs1 → W p l e R s m args below meth c H1 locs1 (cells + mc) (slots + ms) Q (F0 m (pc + 3) ls (.int r :: rest))) : W p l e R s m args below meth c H locs cells slots Q (F0 m pc ls st0) := by
  intro T hT X
  rcases hr T hT X with ⟨v, st₀, t, T', L, h0, X', hL, e1, e2, ⟨⟨r, u, hv, hp, hb⟩, hF⟩, st⟩ | ⟨q, st₀, t, T', L, E, ce, h0, X', hL, e1, e2, ⟨u, hp, hb, hF⟩, hce, hcv, hcl, st⟩
  · cases hv
    obtain ⟨k1, k2, k3⟩ := vx_keep h0 e1 hS hA hf hL hF
    obtain ⟨t2, a1, b1⟩ := kk r u t T'.heap (locs ++ L) e1.symm (by rw [← e2]; exact X'.warmed.alike) hp hb k1 k2 k3 T' rfl X'
    exact ⟨t2, st t2 a1, b1⟩
  · obtain ⟨k1, k2, k3⟩ := vx_keep h0 e1 hS hAX hf hL hF
    obtain ⟨t2, a1, b1⟩ := kx E ce q u t T'.heap (locs ++ L) e1.symm (by rw [← e2]; exact X'.warmed.alike) hp hb k1 k2 k3 (by rw [e1]; exact hce) hcv hcl T' rfl X'
    exact ⟨t2, st.trans a1, b1⟩
theorem vx_calll {S SX : Type} {post : Int64 → S → Prop} {px : SX → Prop} {B : S → State → Prop} {BX : String → SX → State → Prop} {AX : Nat → Prop} (hr : vx_Run p l e R s m args below meth c H locs cells slots mc ms (F0 m pc ls st0) rest (va_Ql post B A1 a) (vx_X px BX AX) free) (hS : va_S A0 H0 H locs) (hA : ∀ q, q < H.size → A1 q → A0 q) (hf : ∀ q, free q → A0 q) (hAX : ∀ q, q < H.size → AX q → A0 q)
    (kx : ∀ (E : String) (ce : Cell) (q9 : Addr) (u : SX) (t : State) (H1 : Heap) (locs1 : List Loc), t.heap = H1 → s.vm.Alike t.vm → px u → BX E u t → H.size ≤ H1.size → (∀ q : Nat, q < H.size → ¬ AX q → H1[q]? = H[q]?) → va_S A0 H0 H1 locs1 → H1[q9]? = some ce → ce.vm = .none → s.vm.findClass E = some ce.cls → vx_W p l e R s m args below meth c H1 locs1 (cells + mc) (slots + ms) Q (F0 m pc ls rest) q9)
    (kk : ∀ (r : Int64) (u : S) (t : State) (H1 : Heap) (locs1 : List Loc), t.heap = H1 → s.vm.Alike t.vm → post r u → B u t → H.size ≤ H1.size → (∀ q : Nat, q < H.size → ¬ A1 q → H1[q]? = H[q]?) → va_S A0 H0 H1 locs1 → W p l e R s m args below meth c H1 locs1 (cells + mc) (slots + ms) Q (F0 m (pc + 3) ls (.long r :: rest))) : W p l e R s m args below meth c H locs cells slots Q (F0 m pc ls st0) := by
  intro T hT X
  rcases hr T hT X with ⟨v, st₀, t, T', L, h0, X', hL, e1, e2, ⟨⟨r, u, hv, hp, hb⟩, hF⟩, st⟩ | ⟨q, st₀, t, T', L, E, ce, h0, X', hL, e1, e2, ⟨u, hp, hb, hF⟩, hce, hcv, hcl, st⟩
  · cases hv
    obtain ⟨k1, k2, k3⟩ := vx_keep h0 e1 hS hA hf hL hF
    obtain ⟨t2, a1, b1⟩ := kk r u t T'.heap (locs ++ L) e1.symm (by rw [← e2]; exact X'.warmed.alike) hp hb k1 k2 k3 T' rfl X'
    exact ⟨t2, st t2 a1, b1⟩
  · obtain ⟨k1, k2, k3⟩ := vx_keep h0 e1 hS hAX hf hL hF
    obtain ⟨t2, a1, b1⟩ := kx E ce q u t T'.heap (locs ++ L) e1.symm (by rw [← e2]; exact X'.warmed.alike) hp hb k1 k2 k3 (by rw [e1]; exact hce) hcv hcl T' rfl X'
    exact ⟨t2, st.trans a1, b1⟩
theorem vx_callf {S SX : Type} {post : UInt32 → S → Prop} {px : SX → Prop} {B : S → State → Prop} {BX : String → SX → State → Prop} {AX : Nat → Prop} (hr : vx_Run p l e R s m args below meth c H locs cells slots mc ms (F0 m pc ls st0) rest (va_Qf post B A1 a) (vx_X px BX AX) free) (hS : va_S A0 H0 H locs) (hA : ∀ q, q < H.size → A1 q → A0 q) (hf : ∀ q, free q → A0 q) (hAX : ∀ q, q < H.size → AX q → A0 q)
    (kx : ∀ (E : String) (ce : Cell) (q9 : Addr) (u : SX) (t : State) (H1 : Heap) (locs1 : List Loc), t.heap = H1 → s.vm.Alike t.vm → px u → BX E u t → H.size ≤ H1.size → (∀ q : Nat, q < H.size → ¬ AX q → H1[q]? = H[q]?) → va_S A0 H0 H1 locs1 → H1[q9]? = some ce → ce.vm = .none → s.vm.findClass E = some ce.cls → vx_W p l e R s m args below meth c H1 locs1 (cells + mc) (slots + ms) Q (F0 m pc ls rest) q9)
    (kk : ∀ (r : UInt32) (u : S) (t : State) (H1 : Heap) (locs1 : List Loc), t.heap = H1 → s.vm.Alike t.vm → post r u → B u t → H.size ≤ H1.size → (∀ q : Nat, q < H.size → ¬ A1 q → H1[q]? = H[q]?) → va_S A0 H0 H1 locs1 → W p l e R s m args below meth c H1 locs1 (cells + mc) (slots + ms) Q (F0 m (pc + 3) ls (.float r :: rest))) : W p l e R s m args below meth c H locs cells slots Q (F0 m pc ls st0) := by
  intro T hT X
  rcases hr T hT X with ⟨v, st₀, t, T', L, h0, X', hL, e1, e2, ⟨⟨r, u, hv, hp, hb⟩, hF⟩, st⟩ | ⟨q, st₀, t, T', L, E, ce, h0, X', hL, e1, e2, ⟨u, hp, hb, hF⟩, hce, hcv, hcl, st⟩
  · cases hv
    obtain ⟨k1, k2, k3⟩ := vx_keep h0 e1 hS hA hf hL hF
    obtain ⟨t2, a1, b1⟩ := kk r u t T'.heap (locs ++ L) e1.symm (by rw [← e2]; exact X'.warmed.alike) hp hb k1 k2 k3 T' rfl X'
    exact ⟨t2, st t2 a1, b1⟩
  · obtain ⟨k1, k2, k3⟩ := vx_keep h0 e1 hS hAX hf hL hF
    obtain ⟨t2, a1, b1⟩ := kx E ce q u t T'.heap (locs ++ L) e1.symm (by rw [← e2]; exact X'.warmed.alike) hp hb k1 k2 k3 (by rw [e1]; exact hce) hcv hcl T' rfl X'
    exact ⟨t2, st.trans a1, b1⟩
theorem vx_calld {S SX : Type} {post : UInt64 → S → Prop} {px : SX → Prop} {B : S → State → Prop} {BX : String → SX → State → Prop} {AX : Nat → Prop} (hr : vx_Run p l e R s m args below meth c H locs cells slots mc ms (F0 m pc ls st0) rest (va_Qd post B A1 a) (vx_X px BX AX) free) (hS : va_S A0 H0 H locs) (hA : ∀ q, q < H.size → A1 q → A0 q) (hf : ∀ q, free q → A0 q) (hAX : ∀ q, q < H.size → AX q → A0 q)
    (kx : ∀ (E : String) (ce : Cell) (q9 : Addr) (u : SX) (t : State) (H1 : Heap) (locs1 : List Loc), t.heap = H1 → s.vm.Alike t.vm → px u → BX E u t → H.size ≤ H1.size → (∀ q : Nat, q < H.size → ¬ AX q → H1[q]? = H[q]?) → va_S A0 H0 H1 locs1 → H1[q9]? = some ce → ce.vm = .none → s.vm.findClass E = some ce.cls → vx_W p l e R s m args below meth c H1 locs1 (cells + mc) (slots + ms) Q (F0 m pc ls rest) q9)
    (kk : ∀ (r : UInt64) (u : S) (t : State) (H1 : Heap) (locs1 : List Loc), t.heap = H1 → s.vm.Alike t.vm → post r u → B u t → H.size ≤ H1.size → (∀ q : Nat, q < H.size → ¬ A1 q → H1[q]? = H[q]?) → va_S A0 H0 H1 locs1 → W p l e R s m args below meth c H1 locs1 (cells + mc) (slots + ms) Q (F0 m (pc + 3) ls (.double r :: rest))) : W p l e R s m args below meth c H locs cells slots Q (F0 m pc ls st0) := by
  intro T hT X
  rcases hr T hT X with ⟨v, st₀, t, T', L, h0, X', hL, e1, e2, ⟨⟨r, u, hv, hp, hb⟩, hF⟩, st⟩ | ⟨q, st₀, t, T', L, E, ce, h0, X', hL, e1, e2, ⟨u, hp, hb, hF⟩, hce, hcv, hcl, st⟩
  · cases hv
    obtain ⟨k1, k2, k3⟩ := vx_keep h0 e1 hS hA hf hL hF
    obtain ⟨t2, a1, b1⟩ := kk r u t T'.heap (locs ++ L) e1.symm (by rw [← e2]; exact X'.warmed.alike) hp hb k1 k2 k3 T' rfl X'
    exact ⟨t2, st t2 a1, b1⟩
  · obtain ⟨k1, k2, k3⟩ := vx_keep h0 e1 hS hAX hf hL hF
    obtain ⟨t2, a1, b1⟩ := kx E ce q u t T'.heap (locs ++ L) e1.symm (by rw [← e2]; exact X'.warmed.alike) hp hb k1 k2 k3 (by rw [e1]; exact hce) hcv hcl T' rfl X'
    exact ⟨t2, st.trans a1, b1⟩
theorem vx_callv {S SX : Type} {post : S → Prop} {px : SX → Prop} {B : S → State → Prop} {BX : String → SX → State → Prop} {AX : Nat → Prop} (hr : vx_Run p l e R s m args below meth c H locs cells slots mc ms (F0 m pc ls st0) rest (va_Qv post B A1 a) (vx_X px BX AX) free) (hS : va_S A0 H0 H locs) (hA : ∀ q, q < H.size → A1 q → A0 q) (hf : ∀ q, free q → A0 q) (hAX : ∀ q, q < H.size → AX q → A0 q)
    (kx : ∀ (E : String) (ce : Cell) (q9 : Addr) (u : SX) (t : State) (H1 : Heap) (locs1 : List Loc), t.heap = H1 → s.vm.Alike t.vm → px u → BX E u t → H.size ≤ H1.size → (∀ q : Nat, q < H.size → ¬ AX q → H1[q]? = H[q]?) → va_S A0 H0 H1 locs1 → H1[q9]? = some ce → ce.vm = .none → s.vm.findClass E = some ce.cls → vx_W p l e R s m args below meth c H1 locs1 (cells + mc) (slots + ms) Q (F0 m pc ls rest) q9)
    (kk : ∀ (u : S) (t : State) (H1 : Heap) (locs1 : List Loc), t.heap = H1 → s.vm.Alike t.vm → post u → B u t → H.size ≤ H1.size → (∀ q : Nat, q < H.size → ¬ A1 q → H1[q]? = H[q]?) → va_S A0 H0 H1 locs1 → W p l e R s m args below meth c H1 locs1 (cells + mc) (slots + ms) Q (F0 m (pc + 3) ls (rest))) : W p l e R s m args below meth c H locs cells slots Q (F0 m pc ls st0) := by
  intro T hT X
  rcases hr T hT X with ⟨v, st₀, t, T', L, h0, X', hL, e1, e2, ⟨⟨u, hv, hp, hb⟩, hF⟩, st⟩ | ⟨q, st₀, t, T', L, E, ce, h0, X', hL, e1, e2, ⟨u, hp, hb, hF⟩, hce, hcv, hcl, st⟩
  · cases hv
    obtain ⟨k1, k2, k3⟩ := vx_keep h0 e1 hS hA hf hL hF
    obtain ⟨t2, a1, b1⟩ := kk u t T'.heap (locs ++ L) e1.symm (by rw [← e2]; exact X'.warmed.alike) hp hb k1 k2 k3 T' rfl X'
    exact ⟨t2, st t2 a1, b1⟩
  · obtain ⟨k1, k2, k3⟩ := vx_keep h0 e1 hS hAX hf hL hF
    obtain ⟨t2, a1, b1⟩ := kx E ce q u t T'.heap (locs ++ L) e1.symm (by rw [← e2]; exact X'.warmed.alike) hp hb k1 k2 k3 (by rw [e1]; exact hce) hcv hcl T' rfl X'
    exact ⟨t2, st.trans a1, b1⟩
/-- caught by the row x of this method's table; the rows ahead don't take it -/
theorem vx_catch {own name : String} {E : String} {ce : Cell} {q : Addr} (hown : s.vm.findClass own = some m.cls) (pre : List ExceptionTableEntry) (x : ExceptionTableEntry) (suf : List ExceptionTableEntry) (hsplit : c.exceptionTable.toList = pre ++ x :: suf)
    (hpass : ∀ z ∈ pre, covers z pc = false ∨ (z.catchType ≠ 0 ∧ ∃ nm : String, (Cond.classLink own z.catchType nm).before args s = true ∧ va_Nc E nm s)) (hx : covers x pc = true) (h0 : x.catchType ≠ 0)
    (hlink : (Cond.classLink own x.catchType name).before args s = true) (hcast : (Cond.castable E name).before args s = true) (hcell : H[q]? = some ce) (hv : ce.vm = .none) (hcl : s.vm.findClass E = some ce.cls)
    (kk : W p l e R s m args below meth c H locs cells slots Q (F0 m x.handlerPc ls [.ref q])) : vx_W p l e R s m args below meth c H locs cells slots Q (F0 m pc ls rest) q := by
  intro T hT X
  have hpl : e.platform.magicAccessors = ({} : Platform).magicAccessors := by rw [X.admits.platform]
  obtain ⟨c3, c4, hc3, hc4, hasg⟩ := Cond.castable_spec hcast
  cases Option.some.inj (hc3.symm.trans hcl)
  obtain ⟨c5, hc5, hcl5⟩ := Cond.classLink_spec hown hlink e.platform hpl
  cases Option.some.inj (hc4.symm.trans hc5)
  obtain ⟨vm', X', st⟩ := X.thenCaughtThrough q (g := F0 m pc ls rest) rfl (Steps.refl _) (by rw [hT]; exact hcell) (by rw [hv]; rfl) (by obtain ⟨k9, h9, -⟩ := Vm.findClass_spec hcl; exact ⟨k9, h9⟩) pre x suf hsplit
    (fun z hz => by
      rcases hpass z hz with h | ⟨hz0, nm, hl1, hn1⟩
      · exact Or.inl h
      · obtain ⟨c6, hc6, hcl6⟩ := Cond.classLink_spec hown hl1 e.platform hpl
        obtain ⟨a8, b8, h1, h2, h3⟩ := hn1
        cases Option.some.inj (h1.symm.trans hcl)
        cases Option.some.inj (h2.symm.trans hc6)
        exact Or.inr ⟨hz0, _, hcl6, h3⟩) hx (Or.inr ⟨h0, c4, hcl5, hasg⟩)
  obtain ⟨t, a1, b1⟩ := kk (T.setVm vm') hT X'
  exact ⟨t, st.trans a1, b1⟩
end Rows
section Ends
variable {p : Program} {l : Launch} {e : Env} {R : Room} {s : State} {m : MethodId} {args : Array Value} {below : List Frame} {meth : Method} {c : Code} {H : Heap} {locs : List Loc} {cells slots : Nat} {Q : State → Prop}
variable {mc ms : Nat} {free : Addr → Prop} {A0 A1 : Nat → Prop} {H0 : Heap} {a : Array Value} {ls : Array Slot} {st0 rest : List Value}
variable {Qc : Array Value → State → Outcome → State → Prop} {XC : String → State → State → Prop}
/-- what a body that may throw owes at its end -/
def vx_MQ (below : List Frame) (Qc : Array Value → State → Outcome → State → Prop) (XC : String → State → State → Prop) (a : Array Value) (s : State) (mc ms : Nat) (free : Addr → Prop) : State → Prop := fun t =>
  ∃ o, t.status = .running ∧ Ended t below o ∧ vx_Q Qc XC mc ms free a s o t
theorem vx_ret {g : JFrame} {mc ms : Nat} (k : W p l e R s m args below meth c H locs cells slots (MQ below Qc args s mc ms free) g) : W p l e R s m args below meth c H locs cells slots (vx_MQ below Qc XC args s mc ms free) g := by
  intro T hT X
  obtain ⟨t, a1, o, b1, b2, b3, b4⟩ := k T hT X
  exact ⟨t, a1, o, b1, b2, Or.inl ⟨b3, b4⟩⟩
/-- not caught here: it goes on to the caller -/
theorem vx_widen {g : JFrame} {q : Addr} {k n : Nat} (h1 : cells ≤ k) (h2 : slots ≤ n) (kk : vx_W p l e R s m args below meth c H locs k n Q g q) : vx_W p l e R s m args below meth c H locs cells slots Q g q := fun T hT X => kk T hT (stand_widen X h1 h2)
theorem vx_out {pc : Nat} {E : String} {ce : Cell} {q : Addr} {mc ms : Nat} (hout : ∀ x ∈ c.exceptionTable.toList, covers x pc = false) (hlocks : meth.locks = false) (hcell : H[q]? = some ce) (hv : ce.vm = .none) (hcl : s.vm.findClass E = some ce.cls)
    (hx : ∀ t : State, t.heap = H → s.vm.Alike t.vm → XC E s t) (hf : ∀ z ∈ locs, free z.base) (hc : cells ≤ mc) (hs : slots ≤ ms) :
    vx_W p l e R s m args below meth c H locs cells slots (vx_MQ below Qc XC args s mc ms free) (F0 m pc ls rest) q := by
  intro T hT X
  obtain ⟨st1, hrun, hend, hW, hsm⟩ := X.leaveThrown q (g := F0 m pc ls rest) rfl rfl rfl hout hlocks
  have hcell9 : (T.setFrames (.throwing q :: below)).heap[q]? = some ce := by
    show T.heap[q]? = some ce
    rw [hT]; exact hcell
  exact ⟨_, st1, .threw q, hrun, hend, Or.inr ⟨q, rfl, E, ce, locs, hx _ hT hW.alike, hcell9, hv, hcl, hW, hsm.mono hc hs, hf⟩⟩
theorem vx_frame {U : State} {k n : Nat} (h : s.sameButNew ({ U with vm := s.vm } : State) locs k n) : s.heap.size ≤ U.heap.size ∧ ∀ q : Nat, q < s.heap.size → (∀ z ∈ locs, z.base ≠ q) → U.heap[q]? = s.heap[q]? := by
  obtain ⟨-, h2, -, -, -, h6⟩ := h
  refine ⟨h2, fun q hq hz => ?_⟩
  obtain ⟨c9, e1, e2, e3, e4⟩ := h6 q _ (Array.getElem?_eq_getElem hq)
  have hs : c9.slots = (s.heap[q]).slots := Array.ext_getElem? fun i => e4 i fun hm => hz _ hm rfl
  have h9 : c9 = s.heap[q] := by
    rw [hs] at e2
    exact e2
  have e5 : U.heap[q]? = some c9 := e1
  rw [e5, h9, Array.getElem?_eq_getElem hq]
/-- the words of a throw but the four that speak of the heap -/
def vx_no (w : Cond) : Bool := decide (w ≠ .isRef (.static Bundle.tN "UNASSIGNED_STACK" Bundle.steD)) && decide (w ≠ .isRef (.static Bundle.tN "SUPPRESSED_SENTINEL" Bundle.listD)) && decide (w ≠ .laysStatic Bundle.tN "UNASSIGNED_STACK" Bundle.steD) && decide (w ≠ .laysStatic Bundle.tN "SUPPRESSED_SENTINEL" Bundle.listD)
def vx_at0 (own : String) (ic : Nat) (X : String) (names : List String) : List Cond := (Bundle.ownAtoms0 own ic X names).filter vx_no
def vx_atS (own : String) (ic : Nat) (X : String) (names : List String) : List Cond := (Bundle.ownAtoms own ic X names).filter vx_no
/-- a word that the tables alone decide, or a good one -/
def vx_ot (w : Cond) : Bool := w.onTables || goodWord w
theorem vx_ot_at {args a' : Array Value} {s U : State} {w : Cond} (hW : s.WarmedH U.vm) (hvm : s.vm = U.vm) (hg : vx_ot w = true) (h : w.before args s = true) : w.before a' U = true := by
  simp only [vx_ot, Bool.or_eq_true] at hg
  rcases hg with hg | hg
  · exact va_tabs hg hvm h
  · exact word_at hW (good_of_word hg) h
/-- a list's words: the good ones out of the method's own list, the others by premises of their own -/
theorem vx_hat {args : Array Value} {s : State} {L B : List Cond} (h1 : ∀ w ∈ L.filter goodWord, w.before args s = true) (h2 : ∀ w ∈ L.filter (fun w => !goodWord w), w ∈ B) (h3 : ∀ w ∈ B, w.before args s = true) : ∀ w ∈ L, w.before args s = true := by
  intro w hw
  by_cases g : goodWord w = true
  · exact h1 w (List.mem_filter.mpr ⟨hw, g⟩)
  · refine h3 w (h2 w (List.mem_filter.mpr ⟨hw, ?_⟩))
    show (!goodWord w) = true
    cases hgw : goodWord w
    · rfl
    · exact absurd hgw g
theorem vx_c {args : Array Value} {s : State} {w : Cond} {B : List Cond} (h : w.before args s = true) (t : ∀ w ∈ B, w.before args s = true) : ∀ w' ∈ w :: B, w'.before args s = true := fun w' h' => (List.mem_cons.mp h').elim (fun e => by rw [e]; exact h) (t w')
theorem vx_n {args : Array Value} {s : State} : ∀ w ∈ ([] : List Cond), w.before args s = true := fun _ h => nomatch h
theorem vx_own {args : Array Value} {s : State} {L : List Cond} (h1 : ∀ w ∈ L.filter vx_no, w.before args s = true)
    (hU : (Cond.isRef (.static Bundle.tN "UNASSIGNED_STACK" Bundle.steD)).before args s = true) (hN : (Cond.isRef (.static Bundle.tN "SUPPRESSED_SENTINEL" Bundle.listD)).before args s = true)
    (lU : (Cond.laysStatic Bundle.tN "UNASSIGNED_STACK" Bundle.steD).before args s = true) (lN : (Cond.laysStatic Bundle.tN "SUPPRESSED_SENTINEL" Bundle.listD).before args s = true) : ∀ w ∈ L, w.before args s = true := by
  intro w hw
  by_cases e1 : w = .isRef (.static Bundle.tN "UNASSIGNED_STACK" Bundle.steD)
  · rw [e1]; exact hU
  · by_cases e2 : w = .isRef (.static Bundle.tN "SUPPRESSED_SENTINEL" Bundle.listD)
    · rw [e2]; exact hN
    · by_cases e3 : w = .laysStatic Bundle.tN "UNASSIGNED_STACK" Bundle.steD
      · rw [e3]; exact lU
      · by_cases e4 : w = .laysStatic Bundle.tN "SUPPRESSED_SENTINEL" Bundle.listD
        · rw [e4]; exact lN
        · exact h1 w (List.mem_filter.mpr ⟨hw, by unfold vx_no; rw [decide_eq_true e1, decide_eq_true e2, decide_eq_true e3, decide_eq_true e4]; rfl⟩)
/-- where a static field lies, its class's statics cell in H -/
def vx_L (C n d : String) (A : Nat → Prop) (U : State) (H : Heap) : Prop := ∃ (c : ClassId) (k : Class) (i : Nat) (f : Field) (a : Nat) (cell : Cell), U.vm.findClass C = some c ∧ U.fieldFound? C n d = some (c, k, i, f) ∧ f.isStatic = true ∧ k.statics = some a ∧ H[a]? = some cell ∧ cell.vm.isStatics = true ∧ cell.cls = c ∧ f.slot < cell.slots.size ∧ k.staticTypes[f.slot]? = some f.type ∧ ¬ A a
theorem vx_L.moved {C n d : String} {A : Nat → Prop} {u U : State} {H : Heap} (hvm : u.vm.Alike U.vm) (h : vx_L C n d A u H) : vx_L C n d A U H := by
  obtain ⟨c, k, i, f, a, cell, h1, h2, h3, h4, h5, h6, h7, h8, h9, h10⟩ := h
  obtain ⟨k', hi', he⟩ := State.fieldFound?_setVm hvm h2
  exact ⟨c, k', i, f, a, cell, by rw [hvm.findClass]; exact h1, hi', h3, by rw [he]; exact h4, h5, h6, h7, h8, by rw [he]; exact h9, h10⟩
theorem vx_L.kept {C n d : String} {A : Nat → Prop} {U : State} {H H1 : Heap} (h : vx_L C n d A U H) (hq : ∀ a : Nat, a < H.size → ¬ A a → H1[a]? = H[a]?) : vx_L C n d A U H1 := by
  obtain ⟨c, k, i, f, a, cell, h1, h2, h3, h4, h5, h6, h7, h8, h9, h10⟩ := h
  exact ⟨c, k, i, f, a, cell, h1, h2, h3, h4, by rw [hq a (Array.getElem?_eq_some_iff.mp h5).1 h10]; exact h5, h6, h7, h8, h9, h10⟩
theorem vx_L.narrow {C n d : String} {A B : Nat → Prop} {U : State} {H : Heap} (h : vx_L C n d A U H) (hAB : ∀ q, B q → A q) : vx_L C n d B U H := by
  obtain ⟨c, k, i, f, a, cell, h1, h2, h3, h4, h5, h6, h7, h8, h9, h10⟩ := h
  exact ⟨c, k, i, f, a, cell, h1, h2, h3, h4, h5, h6, h7, h8, h9, fun z => h10 (hAB _ z)⟩
theorem vx_L.word {C n d : String} {A : Nat → Prop} {s : State} {args : Array Value} (h : vx_L C n d A s s.heap) : (Cond.laysStatic C n d).before args s = true := by
  obtain ⟨c, k, i, f, a, cell, h1, h2, h3, h4, h5, h6, h7, h8, h9, -⟩ := h
  show (Cond.laysStatic C n d).holds args s none s [] = true
  exact Cond.laysStatic_of h1 h2 h3 h4 h5 h6 h7 h8 h9
/-- .. and what it holds: null or some reference -/
def vx_Zq (C n d : String) (A : Nat → Prop) (U : State) (H : Heap) : Prop := va_Zq C n d A U H ∧ vx_L C n d A U H
theorem vx_Zq.moved {C n d : String} {A : Nat → Prop} {u U : State} {H : Heap} (hvm : u.vm.Alike U.vm) (h : vx_Zq C n d A u H) : vx_Zq C n d A U H := ⟨va_Zq.moved hvm h.1, vx_L.moved hvm h.2⟩
theorem vx_Zq.kept {C n d : String} {A : Nat → Prop} {U : State} {H H1 : Heap} (h : vx_Zq C n d A U H) (hq : ∀ a : Nat, a < H.size → ¬ A a → H1[a]? = H[a]?) : vx_Zq C n d A U H1 := ⟨va_Zq.kept h.1 hq, vx_L.kept h.2 hq⟩
theorem vx_Zq.narrow {C n d : String} {A B : Nat → Prop} {U : State} {H : Heap} (h : vx_Zq C n d A U H) (hAB : ∀ q, B q → A q) : vx_Zq C n d B U H := ⟨va_Zq.narrow h.1 hAB, vx_L.narrow h.2 hAB⟩
theorem vx_Zqof {args : Array Value} {s : State} {C n d : String} {A : Nat → Prop} (hl : (Cond.laysStatic C n d).before args s = true) (hini : (Cond.initialized C).before args s = true) (h : (Cond.isRef (.static C n d)).before args s = true) (hA : ∀ a : Nat, a < s.heap.size → ¬ A a) : vx_Zq C n d A s s.heap := by
  refine ⟨va_Zqof hl hini h hA, ?_⟩
  obtain ⟨c, k, i, f, a, cell, h1, h2, h3, h4, h5, h6, h7, h8, h9⟩ := Cond.laysStatic_spec hl
  exact ⟨c, k, i, f, a, cell, h1, h2, h3, h4, h5, h6, h7, h8, h9, hA a (Array.getElem?_eq_some_iff.mp h5).1⟩
theorem vx_isRef {C n d : String} {v : Value} {A : Nat → Prop} {s : State} {args : Array Value} (h : va_Z C n d v A s s.heap) (hv : v.isRef = true) : (Cond.isRef (.static C n d)).before args s = true := by
  obtain ⟨cf, kf, fi, f, a, cell, h1, h2, h3, h4, h5, h6, h7, -⟩ := h
  have he : (Term.static C n d).eval args s none [] s = some v := by
    simp [Term.eval, State.fieldNamed?, h1, h2, h4, h5, h6, h7]
  simp only [Cond.before, Cond.holds, Cond.value, he]
  cases v <;> simp_all [Value.isRef]
theorem vx_isRefq {C n d : String} {A : Nat → Prop} {s : State} {args : Array Value} (h : va_Zq C n d A s s.heap) : (Cond.isRef (.static C n d)).before args s = true := by
  rcases h with h | ⟨t, h⟩
  · exact vx_isRef h rfl
  · exact vx_isRef h rfl
/-- the same frame, seen from here: as if the method were called anew in this heap -/
theorem vx_rebase {T : State} (X : Stand p l e R s m args below meth c T locs cells slots) {R' : Room} (hf : R'.frames ≤ R.frames) (hl : R'.locals ≤ R.locals) (hc : cells + R'.cells ≤ R.cells) (hs : slots + R'.slots ≤ R.slots) :
    Stand p l e R' ((T.setVm s.vm).setFrames (.invoking m args :: below)) m args below meth c T [] 0 0 := by
  have htop : (T.setVm s.vm).topJava?.isSome := X.here.top
  have hF : ((T.setVm s.vm).setFrames (.invoking m args :: below)).frames = .invoking m args :: below := State.frames_setFrames _ (State.cur_lt_of_top htop)
  obtain ⟨g₀, hg0⟩ := Option.isSome_iff_exists.mp htop
  obtain ⟨r, hr⟩ := State.topJava?_eq_some.mp hg0
  have hl9 : e.platform.stackLimits (T.setVm s.vm).me = e.platform.stackLimits s.me := X.limits
  have hb9 : (T.setVm s.vm).me.stackBytes = s.me.stackBytes := X.bytes
  refine ⟨X.admits, X.cas, X.clock, hF, ?_, X.hears, X.method, X.code, X.here, X.tail, X.warmed, ?_, ?_, ?_⟩
  · have h := X.room
    have hU : ((T.setVm s.vm).setFrames (.invoking m args :: below)).localsInUse = s.localsInUse := by
      rw [State.localsInUse_invoking hF (meth := meth) (c := c) X.method X.code, State.localsInUse_invoking X.frames X.method X.code]
    simp only [State.hasRoom, Bool.and_eq_true, decide_eq_true_eq] at h ⊢
    obtain ⟨⟨⟨⟨h1, h2, h3, h4, h5, h6⟩, h7⟩, h8⟩, h9⟩ := h
    rw [X.frames, List.length_cons] at h2 h3
    have q1 := X.heapSize
    have q2 := X.used
    simp only [hF, hU, List.length_cons, State.stackLimits_setFrames, State.stackBytes_setFrames, hl9, hb9]
    refine ⟨⟨⟨⟨by omega, by omega, by omega, by omega, by omega, h6⟩, ?_⟩, ?_⟩, X.book⟩
    · show T.heap.size + R'.cells ≤ e.platform.maxCells
      omega
    · show T.slotsUsed + R'.slots ≤ e.platform.maxSlots
      omega
  · rw [State.stackLimits_setFrames]; rfl
  · rw [State.stackBytes_setFrames]; rfl
  · refine ⟨?_, Nat.le_refl _, Nat.le_refl _, ?_, ?_, fun a c9 h9 => ⟨c9, h9, rfl, rfl, fun _ _ => rfl⟩⟩
    · obtain ⟨t, ht, -⟩ := State.frames_cons hr
      show T.setVm s.vm = { ((T.setVm s.vm).setFrames (.invoking m args :: below)).setFrames (T.setVm s.vm).frames with heap := T.heap, slotsUsed := T.slotsUsed }
      rw [State.setFrames_setFrames, State.setFrames_self ht]
      rfl
    · show T.slotsUsed = T.slotsUsed + ((T.heap.toList.drop T.heap.size).map (·.slots.size)).sum
      rw [List.drop_eq_nil_of_le (Nat.le_of_eq Array.length_toList)]
      rfl
    · show ((T.heap.toList.drop T.heap.size).map (·.slots.size)).sum ≤ 0
      rw [List.drop_eq_nil_of_le (Nat.le_of_eq Array.length_toList)]
      exact Nat.le_refl _
/-- 'throw new E()': new; dup; invokespecial; athrow -/
theorem vx_throw0 {cc : ByteArray} {pc : Nat} (hexec : p.tables.exec = Jvm.exec) (hb : c.code = cc) (hl : l.stackTraces = false) {own cls : String} {names : List String} {ik ic mc ms : Nat} {A : Nat → Prop}
    (hown : s.vm.findClass own = some m.cls) (hcls : Bundle.fit cls = true) (hnames : ∀ n ∈ names, Bundle.fit n = true)
    (hk : (Cond.classLink own ik cls).before args s = true) (hini : (Cond.initialized cls).before args s = true) (hat : ∀ w ∈ vx_at0 own ic cls names, w.before args s = true)
    (hgood : ∀ w ∈ Cond.classLink own ik cls :: Cond.initialized cls :: vx_at0 own ic cls names, vx_ot w = true)
    (hU : vx_Zq Bundle.tN "UNASSIGNED_STACK" Bundle.steD A s s.heap) (hN : vx_Zq Bundle.tN "SUPPRESSED_SENTINEL" Bundle.listD A s s.heap) (hS : va_S A s.heap H locs) (hsize : ls.size = c.maxLocals)
    (d0 : decode cc pc = .ok (.new ik, 3)) (d3 : decode cc (pc + 3) = .ok (.dup, 1)) (d4 : decode cc (pc + 4) = .ok (.invokespecial ic, 3)) (d7 : decode cc (pc + 7) = .ok (.athrow, 1))
    (hout : ∀ x ∈ c.exceptionTable.toList, covers x (pc + 7) = false)
    (hRframes : names.length + 3 < R.frames) (hRlocals : (rest.map fun v => v.category).sum + (13 * (names.length + 1) + 42) ≤ R.locals) (hRcells : cells + 1 ≤ R.cells) (hRslots : slots + 6 ≤ R.slots) (hlocks : meth.locks = false)
    (hx : ∀ t : State, s.vm.Alike t.vm → H.size ≤ t.heap.size → (∀ q : Nat, q < H.size → t.heap[q]? = H[q]?) → XC cls s t)
    (hf : ∀ z ∈ locs, free z.base) (hc : cells + 1 ≤ mc) (hs : slots + 6 ≤ ms) :
    W p l e R s m args below meth c H locs cells slots (vx_MQ below Qc XC args s mc ms free) (F0 m pc ls rest) := by
  intro T hT X
  have htr : e.platform.stackTraces = false := (show e.platform.stackTraces = l.stackTraces by rw [X.admits.platform]).trans hl
  have Y := vx_rebase X (R' := { frames := R.frames, locals := R.locals, cells := 1, slots := 6 }) (Nat.le_refl _) (Nat.le_refl _) hRcells hRslots
  obtain ⟨s', hA⟩ : ∃ z, z = (T.setVm s.vm).setFrames (.invoking m args :: below) := ⟨_, rfl⟩
  rw [← hA] at Y
  have hvm : s'.vm = s.vm := by rw [hA]; rfl
  have hhp : s'.heap = H := by rw [hA]; exact hT
  have hW0 : s.WarmedH s'.vm := by rw [hvm]; exact State.WarmedH.refl s
  have hat' : ∀ w ∈ vx_at0 own ic cls names, w.before args s' = true := fun w hw => vx_ot_at hW0 hvm.symm (hgood w (List.mem_cons_of_mem _ (List.mem_cons_of_mem _ hw))) (hat w hw)
  have hk' : (Cond.classLink own ik cls).before args s' = true := vx_ot_at hW0 hvm.symm (hgood _ List.mem_cons_self) hk
  have hini' : (Cond.initialized cls).before args s' = true := vx_ot_at hW0 hvm.symm (hgood _ (List.mem_cons_of_mem _ List.mem_cons_self)) hini
  have hU' : vx_Zq Bundle.tN "UNASSIGNED_STACK" Bundle.steD A s' s'.heap := by rw [hhp]; exact vx_Zq.moved hW0.alike (hU.kept hS.2.1)
  have hN' : vx_Zq Bundle.tN "SUPPRESSED_SENTINEL" Bundle.listD A s' s'.heap := by rw [hhp]; exact vx_Zq.moved hW0.alike (hN.kept hS.2.1)
  have h : ∀ w ∈ Bundle.ownAtoms0 own ic cls names, w.before args s' = true := vx_own hat' (vx_isRefq hU'.1) (vx_isRefq hN'.1) hU'.2.word hN'.2.word
  have hown' : s'.vm.findClass own = some m.cls := by rw [hvm]; exact hown
  have hins : (Cond.instantiable cls 6).before args s' = true := h _ (by simp [Bundle.ownAtoms0])
  obtain ⟨vm₁, cX, kX, hfX, hkX, -, -, X₁, st1⟩ := Y.newCold hexec (own := own) (C := cls) (index := ik) (n := 6) hown' hk' hins hini'
    (g := F0 m pc ls rest) rfl (by rw [hb]; exact d0) (Nat.le_refl _) (Nat.le_refl _)
  generalize hT1 : (T.setVm vm₁).pushCell { cls := cX, slots := kX.instanceTypes.map defaultValue, vm := .none } = T1 at X₁ st1
  have hcat : (Value.ref T.heap.size).category = 1 := rfl
  have hcellA : T1.heap[T.heap.size]? = some (freshCell cX kX) := by rw [← hT1]; exact State.heap_pushCell_size _ _
  have d3' : decode c.code (pc + 3) = .ok (.dup, 1) := by rw [hb]; exact d3
  obtain ⟨U, hsteps, hrun, hend, hW, hsame, ce, hce, hO⟩ := X₁.ctorThrow0 hexec htr (own := own) (cls := cls) (names := names) (ic := ic) hown' hcls hnames h (fun x hx => nomatch hx) hfX hkX hcellA (by rw [hhp, hT]; exact Nat.le_refl _)
    (g := { method := m, pc := pc + 4, locals := ls, stack := .ref T.heap.size :: .ref T.heap.size :: rest, locked := none }) rfl hsize rfl rfl (rest := rest) rfl
    (by rw [hb]; exact d4) (by rw [hb]; exact d7) hout hRframes (by simp only [List.map_cons, List.sum_cons, hcat]; omega) hlocks
  obtain ⟨f1, f2⟩ := vx_frame hsame
  rw [hhp] at f1 f2
  have hWs : s.WarmedH U.vm := State.WarmedH.trans hW0 hW
  have hcl : s.vm.findClass cls = some ce.cls := by
    have h9 := hO.cls
    rw [hvm] at h9
    exact h9
  have hall : s.sameButNew ({ U with vm := s.vm } : State) locs mc ms := by
    subst hA
    obtain ⟨e1, e2⟩ := hsame
    rw [State.setFrames_setFrames] at e1
    have h2 : (T.setVm s.vm).sameButNew ({ U with vm := s.vm } : State) [] (0 + 1) (0 + 6) := ⟨e1, e2⟩
    have h3 := X.same.trans h2
    rw [List.append_nil] at h3
    exact h3.mono hc hs
  refine ⟨U, ?_, .threw T.heap.size, hrun, hend, Or.inr ⟨T.heap.size, rfl, cls, ce, locs, hx U hWs.alike f1 (fun q hq => f2 q hq (fun z hz => nomatch hz)), hce, hO.vm, hcl, hWs, hall, hf⟩⟩
  refine st1 _ ?_
  show Steps p.tables e below (T1.setTop { method := m, pc := pc + 3, locals := ls, stack := .ref T.heap.size :: rest, locked := none }) _
  jvm_step X₁.here [X₁.here.top, hexec, d3', Value.category]
  exact hsteps
/-- 'throw new E("text")': new; dup; ldc; invokespecial; athrow -/
theorem vx_throwS {cc : ByteArray} {pc : Nat} (hexec : p.tables.exec = Jvm.exec) (hb : c.code = cc) (hl : l.stackTraces = false) {own cls text : String} {names : List String} {ik is ic mc ms sa : Nat} {A : Nat → Prop}
    (hown : s.vm.findClass own = some m.cls) (hcls : Bundle.fit cls = true) (hnames : ∀ n ∈ names, Bundle.fit n = true)
    (hk : (Cond.classLink own ik cls).before args s = true) (hini : (Cond.initialized cls).before args s = true) (hstr : vk_R own is text sa s) (hat : ∀ w ∈ vx_atS own ic cls names, w.before args s = true)
    (hgood : ∀ w ∈ Cond.classLink own ik cls :: Cond.initialized cls :: vx_atS own ic cls names, vx_ot w = true)
    (hU : vx_Zq Bundle.tN "UNASSIGNED_STACK" Bundle.steD A s s.heap) (hN : vx_Zq Bundle.tN "SUPPRESSED_SENTINEL" Bundle.listD A s s.heap) (hS : va_S A s.heap H locs) (hsize : ls.size = c.maxLocals)
    (d0 : decode cc pc = .ok (.new ik, 3)) (d3 : decode cc (pc + 3) = .ok (.dup, 1)) (d4 : decode cc (pc + 4) = .ok (.ldc is, 2)) (d6 : decode cc (pc + 6) = .ok (.invokespecial ic, 3)) (d9 : decode cc (pc + 9) = .ok (.athrow, 1))
    (hout : ∀ x ∈ c.exceptionTable.toList, covers x (pc + 9) = false)
    (hRframes : names.length + 3 < R.frames) (hRlocals : (rest.map fun v => v.category).sum + (13 * (names.length + 1) + 43) ≤ R.locals) (hRcells : cells + 1 ≤ R.cells) (hRslots : slots + 6 ≤ R.slots) (hlocks : meth.locks = false)
    (hx : ∀ t : State, s.vm.Alike t.vm → H.size ≤ t.heap.size → (∀ q : Nat, q < H.size → t.heap[q]? = H[q]?) → XC cls s t)
    (hf : ∀ z ∈ locs, free z.base) (hc : cells + 1 ≤ mc) (hs : slots + 6 ≤ ms) :
    W p l e R s m args below meth c H locs cells slots (vx_MQ below Qc XC args s mc ms free) (F0 m pc ls rest) := by
  intro T hT X
  have htr : e.platform.stackTraces = false := (show e.platform.stackTraces = l.stackTraces by rw [X.admits.platform]).trans hl
  have Y := vx_rebase X (R' := { frames := R.frames, locals := R.locals, cells := 1, slots := 6 }) (Nat.le_refl _) (Nat.le_refl _) hRcells hRslots
  obtain ⟨s', hA⟩ : ∃ z, z = (T.setVm s.vm).setFrames (.invoking m args :: below) := ⟨_, rfl⟩
  rw [← hA] at Y
  have hvm : s'.vm = s.vm := by rw [hA]; rfl
  have hhp : s'.heap = H := by rw [hA]; exact hT
  have hW0 : s.WarmedH s'.vm := by rw [hvm]; exact State.WarmedH.refl s
  have hat' : ∀ w ∈ vx_atS own ic cls names, w.before args s' = true := fun w hw => vx_ot_at hW0 hvm.symm (hgood w (List.mem_cons_of_mem _ (List.mem_cons_of_mem _ hw))) (hat w hw)
  have hk' : (Cond.classLink own ik cls).before args s' = true := vx_ot_at hW0 hvm.symm (hgood _ List.mem_cons_self) hk
  have hini' : (Cond.initialized cls).before args s' = true := vx_ot_at hW0 hvm.symm (hgood _ (List.mem_cons_of_mem _ List.mem_cons_self)) hini
  have hU' : vx_Zq Bundle.tN "UNASSIGNED_STACK" Bundle.steD A s' s'.heap := by rw [hhp]; exact vx_Zq.moved hW0.alike (hU.kept hS.2.1)
  have hN' : vx_Zq Bundle.tN "SUPPRESSED_SENTINEL" Bundle.listD A s' s'.heap := by rw [hhp]; exact vx_Zq.moved hW0.alike (hN.kept hS.2.1)
  have h : ∀ w ∈ Bundle.ownAtoms own ic cls names, w.before args s' = true := vx_own hat' (vx_isRefq hU'.1) (vx_isRefq hN'.1) hU'.2.word hN'.2.word
  have hown' : s'.vm.findClass own = some m.cls := by rw [hvm]; exact hown
  have hins : (Cond.instantiable cls 6).before args s' = true := h _ (by simp [Bundle.ownAtoms])
  obtain ⟨vm₁, cX, kX, hfX, hkX, -, -, X₁, st1⟩ := Y.newCold hexec (own := own) (C := cls) (index := ik) (n := 6) hown' hk' hins hini'
    (g := F0 m pc ls rest) rfl (by rw [hb]; exact d0) (Nat.le_refl _) (Nat.le_refl _)
  generalize hT1 : (T.setVm vm₁).pushCell { cls := cX, slots := kX.instanceTypes.map defaultValue, vm := .none } = T1 at X₁ st1
  have hcat : (Value.ref T.heap.size).category = 1 := rfl
  have hcellA : T1.heap[T.heap.size]? = some (freshCell cX kX) := by rw [← hT1]; exact State.heap_pushCell_size _ _
  have d3' : decode c.code (pc + 3) = .ok (.dup, 1) := by rw [hb]; exact d3
  have d4' : decode c.code (pc + 4) = .ok (.ldc is, 2) := by rw [hb]; exact d4
  have hstr' : vk_R own is text sa s' := vk_R.warm hW0 hstr
  obtain ⟨U, hsteps, hrun, hend, hW, hsame, ce, hce, hO⟩ := X₁.ctorThrowS hexec htr (own := own) (cls := cls) (names := names) (ic := ic) hown' hcls hnames h (fun x hx => nomatch hx) hfX hkX hcellA (by rw [hhp, hT]; exact Nat.le_refl _) (msg := .ref sa) rfl
    (g := { method := m, pc := pc + 6, locals := ls, stack := .ref sa :: .ref T.heap.size :: .ref T.heap.size :: rest, locked := none }) rfl hsize rfl rfl (rest := rest) rfl
    (by rw [hb]; exact d6) (by rw [hb]; exact d9) hout hRframes (by simp only [List.map_cons, List.sum_cons, hcat]; omega) hlocks
  obtain ⟨f1, f2⟩ := vx_frame hsame
  rw [hhp] at f1 f2
  have hWs : s.WarmedH U.vm := State.WarmedH.trans hW0 hW
  have hcl : s.vm.findClass cls = some ce.cls := by
    have h9 := hO.cls
    rw [hvm] at h9
    exact h9
  have hall : s.sameButNew ({ U with vm := s.vm } : State) locs mc ms := by
    subst hA
    obtain ⟨e1, e2⟩ := hsame
    rw [State.setFrames_setFrames] at e1
    have h2 : (T.setVm s.vm).sameButNew ({ U with vm := s.vm } : State) [] (0 + 1) (0 + 6) := ⟨e1, e2⟩
    have h3 := X.same.trans h2
    rw [List.append_nil] at h3
    exact h3.mono hc hs
  refine ⟨U, ?_, .threw T.heap.size, hrun, hend, Or.inr ⟨T.heap.size, rfl, cls, ce, locs, hx U hWs.alike f1 (fun q hq => f2 q hq (fun z hz => nomatch hz)), hce, hO.vm, hcl, hWs, hall, hf⟩⟩
  refine st1 _ ?_
  show Steps p.tables e below (T1.setTop { method := m, pc := pc + 3, locals := ls, stack := .ref T.heap.size :: rest, locked := none }) _
  jvm_step X₁.here [X₁.here.top, hexec, d3', Value.category]
  exact X₁.ldcString hexec (own := own) (text := text) (index := is) (a := sa) hown' hstr'.1 hstr'.2
    (g := { method := m, pc := pc + 4, locals := ls, stack := .ref T.heap.size :: .ref T.heap.size :: rest, locked := none }) rfl d4' _ hsteps
/-- 'throw new E("text")', the text by a wide index -/
theorem vx_throwSW {cc : ByteArray} {pc : Nat} (hexec : p.tables.exec = Jvm.exec) (hb : c.code = cc) (hl : l.stackTraces = false) {own cls text : String} {names : List String} {ik is ic mc ms sa : Nat} {A : Nat → Prop}
    (hown : s.vm.findClass own = some m.cls) (hcls : Bundle.fit cls = true) (hnames : ∀ n ∈ names, Bundle.fit n = true)
    (hk : (Cond.classLink own ik cls).before args s = true) (hini : (Cond.initialized cls).before args s = true) (hstr : vk_R own is text sa s) (hat : ∀ w ∈ vx_atS own ic cls names, w.before args s = true)
    (hgood : ∀ w ∈ Cond.classLink own ik cls :: Cond.initialized cls :: vx_atS own ic cls names, vx_ot w = true)
    (hU : vx_Zq Bundle.tN "UNASSIGNED_STACK" Bundle.steD A s s.heap) (hN : vx_Zq Bundle.tN "SUPPRESSED_SENTINEL" Bundle.listD A s s.heap) (hS : va_S A s.heap H locs) (hsize : ls.size = c.maxLocals)
    (d0 : decode cc pc = .ok (.new ik, 3)) (d3 : decode cc (pc + 3) = .ok (.dup, 1)) (d4 : decode cc (pc + 4) = .ok (.ldc_w is, 3)) (d7 : decode cc (pc + 7) = .ok (.invokespecial ic, 3)) (d10 : decode cc (pc + 10) = .ok (.athrow, 1))
    (hout : ∀ x ∈ c.exceptionTable.toList, covers x (pc + 10) = false)
    (hRframes : names.length + 3 < R.frames) (hRlocals : (rest.map fun v => v.category).sum + (13 * (names.length + 1) + 43) ≤ R.locals) (hRcells : cells + 1 ≤ R.cells) (hRslots : slots + 6 ≤ R.slots) (hlocks : meth.locks = false)
    (hx : ∀ t : State, s.vm.Alike t.vm → H.size ≤ t.heap.size → (∀ q : Nat, q < H.size → t.heap[q]? = H[q]?) → XC cls s t)
    (hf : ∀ z ∈ locs, free z.base) (hc : cells + 1 ≤ mc) (hs : slots + 6 ≤ ms) :
    W p l e R s m args below meth c H locs cells slots (vx_MQ below Qc XC args s mc ms free) (F0 m pc ls rest) := by
  intro T hT X
  have htr : e.platform.stackTraces = false := (show e.platform.stackTraces = l.stackTraces by rw [X.admits.platform]).trans hl
  have Y := vx_rebase X (R' := { frames := R.frames, locals := R.locals, cells := 1, slots := 6 }) (Nat.le_refl _) (Nat.le_refl _) hRcells hRslots
  obtain ⟨s', hA⟩ : ∃ z, z = (T.setVm s.vm).setFrames (.invoking m args :: below) := ⟨_, rfl⟩
  rw [← hA] at Y
  have hvm : s'.vm = s.vm := by rw [hA]; rfl
  have hhp : s'.heap = H := by rw [hA]; exact hT
  have hW0 : s.WarmedH s'.vm := by rw [hvm]; exact State.WarmedH.refl s
  have hat' : ∀ w ∈ vx_atS own ic cls names, w.before args s' = true := fun w hw => vx_ot_at hW0 hvm.symm (hgood w (List.mem_cons_of_mem _ (List.mem_cons_of_mem _ hw))) (hat w hw)
  have hk' : (Cond.classLink own ik cls).before args s' = true := vx_ot_at hW0 hvm.symm (hgood _ List.mem_cons_self) hk
  have hini' : (Cond.initialized cls).before args s' = true := vx_ot_at hW0 hvm.symm (hgood _ (List.mem_cons_of_mem _ List.mem_cons_self)) hini
  have hU' : vx_Zq Bundle.tN "UNASSIGNED_STACK" Bundle.steD A s' s'.heap := by rw [hhp]; exact vx_Zq.moved hW0.alike (hU.kept hS.2.1)
  have hN' : vx_Zq Bundle.tN "SUPPRESSED_SENTINEL" Bundle.listD A s' s'.heap := by rw [hhp]; exact vx_Zq.moved hW0.alike (hN.kept hS.2.1)
  have h : ∀ w ∈ Bundle.ownAtoms own ic cls names, w.before args s' = true := vx_own hat' (vx_isRefq hU'.1) (vx_isRefq hN'.1) hU'.2.word hN'.2.word
  have hown' : s'.vm.findClass own = some m.cls := by rw [hvm]; exact hown
  have hins : (Cond.instantiable cls 6).before args s' = true := h _ (by simp [Bundle.ownAtoms])
  obtain ⟨vm₁, cX, kX, hfX, hkX, -, -, X₁, st1⟩ := Y.newCold hexec (own := own) (C := cls) (index := ik) (n := 6) hown' hk' hins hini'
    (g := F0 m pc ls rest) rfl (by rw [hb]; exact d0) (Nat.le_refl _) (Nat.le_refl _)
  generalize hT1 : (T.setVm vm₁).pushCell { cls := cX, slots := kX.instanceTypes.map defaultValue, vm := .none } = T1 at X₁ st1
  have hcat : (Value.ref T.heap.size).category = 1 := rfl
  have hcellA : T1.heap[T.heap.size]? = some (freshCell cX kX) := by rw [← hT1]; exact State.heap_pushCell_size _ _
  have d3' : decode c.code (pc + 3) = .ok (.dup, 1) := by rw [hb]; exact d3
  have d4' : decode c.code (pc + 4) = .ok (.ldc_w is, 3) := by rw [hb]; exact d4
  have hstr' : vk_R own is text sa s' := vk_R.warm hW0 hstr
  obtain ⟨U, hsteps, hrun, hend, hW, hsame, ce, hce, hO⟩ := X₁.ctorThrowS hexec htr (own := own) (cls := cls) (names := names) (ic := ic) hown' hcls hnames h (fun x hx => nomatch hx) hfX hkX hcellA (by rw [hhp, hT]; exact Nat.le_refl _) (msg := .ref sa) rfl
    (g := { method := m, pc := pc + 7, locals := ls, stack := .ref sa :: .ref T.heap.size :: .ref T.heap.size :: rest, locked := none }) rfl hsize rfl rfl (rest := rest) rfl
    (by rw [hb]; exact d7) (by rw [hb]; exact d10) hout hRframes (by simp only [List.map_cons, List.sum_cons, hcat]; omega) hlocks
  obtain ⟨f1, f2⟩ := vx_frame hsame
  rw [hhp] at f1 f2
  have hWs : s.WarmedH U.vm := State.WarmedH.trans hW0 hW
  have hcl : s.vm.findClass cls = some ce.cls := by
    have h9 := hO.cls
    rw [hvm] at h9
    exact h9
  have hall : s.sameButNew ({ U with vm := s.vm } : State) locs mc ms := by
    subst hA
    obtain ⟨e1, e2⟩ := hsame
    rw [State.setFrames_setFrames] at e1
    have h2 : (T.setVm s.vm).sameButNew ({ U with vm := s.vm } : State) [] (0 + 1) (0 + 6) := ⟨e1, e2⟩
    have h3 := X.same.trans h2
    rw [List.append_nil] at h3
    exact h3.mono hc hs
  refine ⟨U, ?_, .threw T.heap.size, hrun, hend, Or.inr ⟨T.heap.size, rfl, cls, ce, locs, hx U hWs.alike f1 (fun q hq => f2 q hq (fun z hz => nomatch hz)), hce, hO.vm, hcl, hWs, hall, hf⟩⟩
  refine st1 _ ?_
  show Steps p.tables e below (T1.setTop { method := m, pc := pc + 3, locals := ls, stack := .ref T.heap.size :: rest, locked := none }) _
  jvm_step X₁.here [X₁.here.top, hexec, d3', Value.category]
  exact X₁.ldcStringW hexec (own := own) (text := text) (index := is) (a := sa) hown' hstr'.1 hstr'.2
    (g := { method := m, pc := pc + 4, locals := ls, stack := .ref T.heap.size :: .ref T.heap.size :: rest, locked := none }) rfl d4' _ hsteps
end Ends
section Bodies
variable {l : Launch}
theorem vx_ofW {y : MethodName} {ws ws' : List Cond} {rm : Room} {Pc : Array Value → State → Prop} {Qc : Array Value → State → Outcome → State → Prop} {XC : String → State → State → Prop} {mc ms : Nat} {free : Addr → Prop} {cc : ByteArray} {maxL : Nat} {ret : Option FieldType}
    (hy : plainName y.cls = true) (hw : ws = Cond.code y cc maxL ret :: ws')
    (body : ∀ p e s m args below meth c s₁, BodyLoose p l y (headSpec ws rm) cc maxL ret e s m args below meth c s₁ → c.maxLocals = maxL → (∀ x ∈ c.exceptionTable.toList, False) → Pc args s →
      W p l e (headSpec ws rm).room s m args below meth c s.heap [] 0 0 (vx_MQ below Qc XC args s mc ms free) (entryFrame m args maxL)) : vx_Met l y ws rm Pc Qc XC mc ms free := by
  refine MetFree.of_bodyS (code := cc) (maxLocals := maxL) (ret := ret) hy ?_ ?_
  · intro args s m h hn
    obtain ⟨meth, c, h1, h2, h3, h4, h5, h6, -, -⟩ := Cond.code_spec hn (atoms_spec (ws := ws) h _ (by rw [hw]; exact List.mem_cons_self))
    exact ⟨meth, c, h1, h2, h3, h4, h5, h6⟩
  · intro p e s m args below meth c s₁ B hml hP _
    have hh0 : s₁.heap = s.heap := by rw [B.state]; rfl
    have ht : ∀ x ∈ c.exceptionTable.toList, False := by
      obtain ⟨meth9, c9, h1, h2, -, -, -, -, h7, -⟩ := Cond.code_spec B.named (atoms_spec (ws := ws) B.pre _ (by rw [hw]; exact List.mem_cons_self))
      cases Option.some.inj (h1.symm.trans B.method)
      cases Option.some.inj (h2.symm.trans (Stand.of_body B).code)
      intro x hx
      rw [Array.isEmpty_iff.mp h7] at hx
      cases hx
    obtain ⟨t, a1, o, b1, b2, b3⟩ := body p e s m args below meth c s₁ B hml ht hP s₁ hh0 (Stand.of_body B)
    exact ⟨t, o, a1, b1, b2, b3⟩
/-- the table of a body with handlers -/
theorem vx_table {p : Program} {x y : MethodName} {S : Spec} {cc bytes : ByteArray} {maxL maxL' : Nat} {ret ret' : Option FieldType} {e : Env} {s s₁ : State} {m : MethodId} {args : Array Value} {below : List Frame} {meth : Method} {c : Code} {hh : List (Nat × Nat × Nat × Nat)}
    (B : BodyLoose p l y S cc maxL ret e s m args below meth c s₁) (h : (Cond.codeWith y bytes maxL' ret' hh).before args s = true) : c.exceptionTable.toList = tableOf hh := by
  obtain ⟨m9, meth9, c9, hn9, h1, h2, -, -, h6, -⟩ := Cond.codeWith_spec h
  cases Option.some.inj (hn9.symm.trans B.named)
  cases Option.some.inj (h1.symm.trans B.method)
  cases Option.some.inj (h2.symm.trans (Stand.of_body B).code)
  rw [← h6, table_eq]
end Bodies
end VXA
/-! ===== END ===== -/
/-! ===== BEGIN a static call of a method with an exception table ===== -/
section VXS
variable {p : Program} {l : Launch} {e : Env} {R : Room} {s : State} {m : MethodId} {args : Array Value} {below : List Frame} {meth : Method} {c : Code} {T : State} {H : Heap} {locs : List Loc} {cells slots : Nat}
abbrev vx_CSW (R : Room) (s : State) (args : Array Value) (own : String) (index : Nat) (y : MethodName) (bytes : ByteArray) (maxL : Nat) (ret : Option FieldType) (hh : List (Nat × Nat × Nat × Nat)) (ws : List Cond) (rm : Room) (mc ms n : Nat) : Prop :=
  (rm.cells = mc ∧ rm.slots = ms ∧ rm.frames + 1 ≤ R.frames ∧ 8 + (maxL + 11) + rm.locals ≤ R.locals ∧ (∀ w ∈ ws, ∀ (a' : Array Value) (U : State), s.WarmedH U.vm → w.before a' U = true) ∧ Cond.codeWith y bytes maxL ret hh ∈ ws) ∧
  (Cond.codeWith y bytes maxL ret hh).before args s = true ∧ (Cond.initialized y.cls).before args s = true ∧ (y.cls ≠ "java/lang/invoke/MethodHandle" ∧ y.cls ≠ "java/lang/invoke/VarHandle") ∧
  (∀ sig, parseMethodDescriptor y.desc = some sig → n = sig.parameters.length) ∧ (Cond.methodLink own index y).before args s = true ∧ (Cond.static y).before args s = true
theorem vx_cwSW {own : String} {index maxL mc ms : Nat} {y : MethodName} {bytes : ByteArray} {ret : Option FieldType} {hh : List (Nat × Nat × Nat × Nat)} {Ts ws ws' : List Cond} {rm : Room} (n : Nat) (ht : ∀ w ∈ Ts, w.before args s = true) (hT : GoodIn Ts (va_wsS own index y ws)) (hw : ws = Cond.codeWith y bytes maxL ret hh :: ws') (hrc : rm.cells = mc) (hrs : rm.slots = ms)
    (hd : y.cls ≠ "java/lang/invoke/MethodHandle" ∧ y.cls ≠ "java/lang/invoke/VarHandle" ∧ (parseMethodDescriptor y.desc).map (fun d => d.parameters.length) = some n) (hR : rm.frames + 1 ≤ R.frames ∧ 8 + (maxL + 11) + rm.locals ≤ R.locals) :
    vx_CSW R s args own index y bytes maxL ret hh ws rm mc ms n := by
  have ok : ∀ w ∈ va_wsS own index y ws, w.before args s = true := fun w h => ht w (hT w h).1
  have hG : GoodIn Ts ws := fun w h => hT w (by unfold va_wsS; exact List.mem_append_right _ h)
  have hc : Cond.codeWith y bytes maxL ret hh ∈ ws := by rw [hw]; exact List.mem_cons_self
  refine ⟨⟨hrc, hrs, hR.1, hR.2, pay_in ht hG, hc⟩, ht _ (hG _ hc).1, ok _ (by simp [va_wsS]), ⟨hd.1, hd.2.1⟩, fun sig h => ?_, ok _ (by simp [va_wsS]), ok _ (by simp [va_wsS])⟩
  have h2 := hd.2.2
  rw [h] at h2
  exact (Option.some.inj h2).symm
theorem vx_callSW (X : Stand p l e R s m args below meth c T locs cells slots) (hexec : p.tables.exec = Jvm.exec) {own : String} {index : Nat} {y : MethodName} {bytes : ByteArray} {maxL : Nat} {ret : Option FieldType} {hh : List (Nat × Nat × Nat × Nat)}
    (hown : s.vm.findClass own = some m.cls) (hlink : (Cond.methodLink own index y).before args s = true) (hstat : (Cond.static y).before args s = true) (hinit : (Cond.initialized y.cls).before args s = true)
    (hcode : (Cond.codeWith y bytes maxL ret hh).before args s = true) (hy : y.cls ≠ "java/lang/invoke/MethodHandle" ∧ y.cls ≠ "java/lang/invoke/VarHandle")
    {W9 : Nat} {Pre : Pt → Array Value → Prop} {Post : Pt → Array Value → Option Value → Pt → Prop} (hK : Back l R p e below s args y 3 W9 Pre Post)
    {g : JFrame} (hg : g.method = m) (hsize : g.locals.size = c.maxLocals) {argsL rest : List Value} (hlen : ∀ sig, parseMethodDescriptor y.desc = some sig → argsL.length = sig.parameters.length)
    (hstack : g.stack = argsL.reverse ++ rest) (hW : 2 * g.monitorRoom + (rest.map fun v => v.category).sum ≤ W9) (hdg : decode c.code g.pc = .ok (.invokestatic index, 3))
    (hpre : ∀ vm₁, s.WarmedH vm₁ → Pre ⟨T.setVm vm₁, locs, cells, slots⟩ argsL.toArray) :
    ∃ (v : Option Value) (vm₁ : Vm) (B : Pt), s.WarmedH vm₁ ∧ Stand p l e R s m args below meth c B.U B.locs B.cells B.slots ∧ Post ⟨T.setVm vm₁, locs, cells, slots⟩ argsL.toArray v B ∧
      ∀ target, Steps p.tables e below (B.U.setTop { g with pc := g.pc + 3, stack := v.toList ++ rest }) target → Steps p.tables e below (T.setTop g) target := by
  obtain ⟨mk, methM, cM, hnamed, hmethM, -, -, -, -, -, -, hsigM⟩ := Cond.codeWith_spec hcode
  have hstatic : methM.isStatic = true := Cond.static_spec hnamed hmethM hstat
  obtain ⟨kP, hkP, -⟩ := className_of_methodNamed hnamed
  have hinitP : kP.init = .initialized := Cond.initialized_spec (findClass_of_methodNamed hnamed) hkP hinit
  obtain ⟨vm₁, X₁, hstep₁⟩ := X.invokestatic hexec hown hlink hnamed hmethM hstatic hkP hinitP hy (g := g) hg (argsL := argsL) (rest := rest) (hlen _ hsigM) hstack hdg
  obtain ⟨v, B, X', hpost, hsteps⟩ := hK m meth c ⟨T.setVm vm₁, locs, cells, slots⟩ { g with stack := rest } (.invokestatic index) mk argsL.toArray X₁ hg hsize hdg hW (X₁.named hnamed) (hpre vm₁ X₁.warmed)
  exact ⟨v, vm₁, B, X₁.warmed, X', hpost, fun target h => hstep₁ _ fun acts => by rw [doInvoke_state]; exact hsteps.trans h⟩
theorem vx_runSW {y : MethodName} {bytes cc : ByteArray} {maxL nL mc ms n index : Nat} {ret : Option FieldType} {hh : List (Nat × Nat × Nat × Nat)} {ws : List Cond} {rm : Room} {Pc : Array Value → State → Prop} {Qc : Array Value → State → Outcome → State → Prop} {free : Addr → Prop} {Ts : List Cond} {own : String} {As rest : List Value} {g : JFrame}
    (S : CallFix p m c cc nL s args Ts own) (hM : Met l y ws rm Pc Qc mc ms free) (cw : vx_CSW R s args own index y bytes maxL ret hh ws rm mc ms n) (hp : PreS s H Pc As)
    (hg : g.method = m) (hn : As.length = n) (hsize : g.locals.size = nL) (hstack : g.stack = As.reverse ++ rest) (hW : 2 * g.monitorRoom + (rest.map fun v => v.category).sum ≤ 8) (hdg : decode cc g.pc = .ok (.invokestatic index, 3)) (hf : cells + mc ≤ R.cells ∧ slots + ms ≤ R.slots) :
    va_Run p l e R s m args below meth c H locs cells slots mc ms g rest (Qc As.toArray) (free) := by
  obtain ⟨⟨hrc, hrs, hfr, hlo, hws, hcw⟩, hcode, hini, hy, hlen, hl, hstt⟩ := cw
  have hK : Back l R p e below s args y 3 8 (PreOf R mc ms Pc) (PostOf Qc mc ms free) := va_backW (hh := hh) (bytes := bytes) (maxL := maxL) (ret := ret) hM hp.1 hrc hrs hfr hlo hws hcw (fun a' U hW => word_at hW (Or.inl (by first | rfl | simp [Cond.onTables, Cond.keeps, Cond.steady])) hini)
  obtain ⟨hx, hb, hml, ho, -⟩ := S
  intro T hT X
  obtain ⟨v, vm₁, ⟨U', l2, c2, s2⟩, hW₁, X', ⟨g', mk, t, L, e1, e2, hq, h1, hL, h2, h3⟩, st⟩ := vx_callSW X hx (hh := hh) (bytes := bytes) (maxL := maxL) (ret := ret) ho hl hstt hini hcode hy hK hg (hsize.trans hml.symm) (argsL := As) (rest := rest) (fun sig h => hn.trans (hlen sig h)) hstack hW (by rw [hb]; exact hdg)
    (fun vm₁ hW₁ => ⟨hf.1, hf.2, hp.2 (T.setVm vm₁) hT hW₁⟩)
  dsimp only [Pt.U, Pt.locs, Pt.cells, Pt.slots] at X' e1 e2 h1 h2 h3 st
  subst h1; subst h2; subst h3
  exact ⟨v, (T.setVm vm₁).calling g' mk As.toArray, t, U', L, hT, X', hL, e1, e2, hq, st⟩
/-- not caught here, past rows that name other classes: it goes on to the caller -/
theorem vx_outP {p : Program} {l : Launch} {e : Env} {R : Room} {s : State} {m : MethodId} {args : Array Value} {below : List Frame} {meth : Method} {c : Code} {H : Heap} {locs : List Loc} {cells slots : Nat} {free : Addr → Prop} {ls : Array Slot} {rest : List Value} {Qc : Array Value → State → Outcome → State → Prop} {XC : String → State → State → Prop}
    {pc : Nat} {own E : String} {ce : Cell} {q : Addr} {mc ms : Nat} (hown : s.vm.findClass own = some m.cls) (hlocks : meth.locks = false)
    (hpass : ∀ z ∈ c.exceptionTable.toList, covers z pc = false ∨ (z.catchType ≠ 0 ∧ ∃ nm : String, (Cond.classLink own z.catchType nm).before args s = true ∧ va_Nc E nm s)) (hcell : H[q]? = some ce) (hv : ce.vm = .none) (hcl : s.vm.findClass E = some ce.cls)
    (hx : ∀ t : State, t.heap = H → s.vm.Alike t.vm → XC E s t) (hf : ∀ z ∈ locs, free z.base) (hc : cells ≤ mc) (hs : slots ≤ ms) :
    vx_W p l e R s m args below meth c H locs cells slots (vx_MQ below Qc XC args s mc ms free) (F0 m pc ls rest) q := by
  intro T hT X
  have hpl : e.platform.magicAccessors = ({} : Platform).magicAccessors := by rw [X.admits.platform]
  obtain ⟨vm', hW', X', st⟩ := X.outThrough hlocks q (g := F0 m pc ls rest) rfl rfl rfl (cell := ce) (by rw [hT]; exact hcell) (by rw [hv]; rfl)
    (by obtain ⟨k9, h9, -⟩ := Vm.findClass_spec hcl; exact ⟨k9, h9⟩) (fun z hz => by
      rcases hpass z hz with h | ⟨hz0, nm, hl1, hn1⟩
      · exact Or.inl h
      · obtain ⟨c6, hc6, hcl6⟩ := Cond.classLink_spec hown hl1 e.platform hpl
        obtain ⟨a8, b8, h1, h2, h3⟩ := hn1
        cases Option.some.inj (h1.symm.trans hcl)
        cases Option.some.inj (h2.symm.trans hc6)
        exact Or.inr ⟨hz0, _, hcl6, h3⟩)
  obtain ⟨g₀, hfr⟩ := X'.frames_eq
  have hcell9 : ((T.setVm vm').setFrames (.throwing q :: below)).heap[q]? = some ce := by
    show T.heap[q]? = some ce
    rw [hT]; exact hcell
  have hend : Ended ((T.setVm vm').setFrames (.throwing q :: below)) below (.threw q) := State.frames_setFrames _ (State.cur_lt_of_frames hfr)
  refine ⟨(T.setVm vm').setFrames (.throwing q :: below), ?_, .threw q, X'.here.running, hend, Or.inr ⟨q, rfl, E, ce, locs, hx _ hT (X'.ends _).1.alike, hcell9, hv, hcl, (X'.ends _).1, (X'.ends _).2.mono hc hs, hf⟩⟩
  rw [X.pushThrowing_eq]
  exact st
/-- a thing of a world lies in the heap -/
theorem vx_lt {D : va_G} {cl : List vw_C} {ws : va_W} {H1 : Heap} (h : va_P D cl ws H1) {k : Nat} {q : Nat × va_E} (hk : ws[k]? = some q) : q.1 < H1.size := (h k q hk).lt
end VXS
/-! ===== END ===== -/
/-! ===== BEGIN methods with a table of their own: called by a name, returning or throwing ===== -/
section VXH
/-! vx_backW, vx_callVX, vx_callSX, vx_callVW, vx_runVW, vx_runVX, vx_runSX, vx_ofWH follow the same proofs as their sisters above (Free/Laws.lean, Shelf42/LK1.lean); vx_outP calls Shelf42/NT130.lean (outThrough). -/
section
variable {l : Launch} {R : Room} {p : Program} {e : Env} {below : List Frame} {s : State} {sargs : Array Value} {y : MethodName} {len W9 : Nat}
theorem vx_backW {ws : List Cond} {rm : Room} {Pc : Array Value → State → Prop} {Qc : Array Value → State → Outcome → State → Prop} {XC : String → State → State → Prop} {mc ms : Nat} {free : Addr → Prop} {bytes : ByteArray} {maxL : Nat} {ret : Option FieldType} {hh : List (Nat × Nat × Nat × Nat)}
    (hM : vx_Met l y ws rm Pc Qc XC mc ms free) (hblind : FrameBlind Pc) (hrc : rm.cells = mc) (hrs : rm.slots = ms)
    (hframes : rm.frames + 1 ≤ R.frames) (hlocals : W9 + (maxL + 11) + rm.locals ≤ R.locals)
    (hws : ∀ w ∈ ws, ∀ a' U, s.WarmedH U.vm → w.before a' U = true) (hcode : Cond.codeWith y bytes maxL ret hh ∈ ws) (hinit : ∀ a' U, s.WarmedH U.vm → (Cond.initialized y.cls).before a' U = true) :
    vx_Back l R p e below s sargs y len W9 (PreOf R mc ms Pc) (PostOf Qc mc ms free) (vx_Post XC mc ms free) := by
  intro m meth c A g ig mk a X hg hsize hdg hW hn hp
  have h1 : (headSpec ws rm).pre.before a A.U = true := atoms_intro fun w hw => hws w hw _ _ X.warmed
  have h2 : (Cond.codeWith y bytes maxL ret hh).before a A.U = true := hws _ hcode _ _ X.warmed
  have h3 : (Cond.initialized y.cls).before a A.U = true := hinit _ _ X.warmed
  have h4 : A.cells + (headSpec ws rm).room.cells ≤ R.cells := by rw [show (headSpec ws rm).room.cells = mc from hrc]; exact hp.1
  have h5 : A.slots + (headSpec ws rm).room.slots ≤ R.slots := by rw [show (headSpec ws rm).room.slots = ms from hrs]; exact hp.2.1
  have hPc : Pc a (A.U.calling g mk a) := hblind _ _ _ _ hp.2.2
  obtain ⟨U, Ls, c0, s0⟩ := A
  dsimp only [Pt.U, Pt.locs, Pt.cells, Pt.slots] at h1 h2 h3 h4 h5 X hn hPc ⊢
  obtain ⟨m9, methY, cY, hn9, hmY, hcY, -, hlY, -⟩ := Cond.codeWith_spec h2
  cases Option.some.inj (hn9.symm.trans hn)
  obtain ⟨kY, hkY, -⟩ := className_of_methodNamed hn
  have hinitY : kY.init = .initialized := Cond.initialized_spec (findClass_of_methodNamed hn) hkY h3
  have h : At U g.method c below := by rw [hg]; exact X.here
  have hlocals9 : W9 + (maxL + 11) + (headSpec ws rm).room.locals ≤ R.locals := hlocals
  have happ : (headSpec ws rm).appliesLoose y e.platform (U.calling g mk a) = true :=
    Spec.appliesLoose_calling (g := g) h hdg hn hkY hinitY
      (X.room_calling (g := g) (R' := (headSpec ws rm).room) hsize hmY hcY hframes (by rw [hlY]; omega) h4 h5) h1
  obtain ⟨mid, hmid⟩ := h.above
  have hfr : (U.setTop g).frames = (.java g :: mid) ++ below := by rw [State.frames_setTop' g h.top, hmid]; rfl
  obtain ⟨o, s₂, hsteps, -, hend, hq⟩ := Steps.callFree hM p X.admits X.cas X.clock (acts := []) hfr happ hPc trivial
  have hq' : vx_Q Qc XC mc ms free a (U.calling g mk a) o s₂ := hq
  rw [State.frames_setTop' g h.top] at hend
  obtain ⟨g₀, hg0⟩ := Option.isSome_iff_exists.mp h.top
  obtain ⟨r, hr⟩ := State.topJava?_eq_some.mp hg0
  have hr' : (({ U with heap := s₂.heap, slotsUsed := s₂.slotsUsed } : State).setVm s₂.vm).frames = .java g₀ :: r := hr
  rcases hq' with ⟨hqc, L, hfe, hL⟩ | ⟨q, rfl, E, ce, L, hx, hce, hcv, hcl, hW₂, hsm, hL⟩
  · obtain ⟨⟨v, rfl⟩, hW₂, e2, q2, q3, q4, q5, q6⟩ := id hfe
    have e3 : s₂ = ({ (U.calling g mk a).setFrames s₂.frames with heap := s₂.heap, slotsUsed := s₂.slotsUsed } : State).setVm s₂.vm := by
      have : s₂ = ({ s₂ with vm := (U.calling g mk a).vm } : State).setVm s₂.vm := rfl
      rw [e2] at this
      exact this
    obtain ⟨c₂, i₂, len₂, hc₂, hd₂, hf₂⟩ := hend
    have hW' : U.WarmedH s₂.vm := hW₂
    have hcc : c₂ = c := by
      have h1 : s₂.code? g.method = U.code? g.method := by
        rw [State.code?_eq, State.code?_eq, hW'.alike.method?]
      exact Option.some.inj (hc₂.symm.trans (h1.trans h.code))
    subst hcc
    have hlen : len₂ = len := by rw [hdg] at hd₂; cases hd₂; rfl
    subst hlen
    have hs₂ : s₂ = (({ U with heap := s₂.heap, slotsUsed := s₂.slotsUsed } : State).setVm s₂.vm).setTop { g with pc := g.pc + len₂, stack := v.toList ++ g.stack } := by
      refine e3.trans ?_
      rw [hf₂, State.calling_eq h.top, State.setFrames_setFrames, State.setTop_of_frames _ hr', hr]
      rfl
    have hsame : U.sameButNew ({ U with heap := s₂.heap, slotsUsed := s₂.slotsUsed } : State) L mc ms := by
      refine ⟨?_, q2, q3, q4, q5, q6⟩
      obtain ⟨t, ht, -⟩ := State.frames_cons hr
      show ({ U with heap := s₂.heap, slotsUsed := s₂.slotsUsed } : State) = { U.setFrames U.frames with heap := s₂.heap, slotsUsed := s₂.slotsUsed }
      rw [State.setFrames_self ht]
    subst hg
    refine Or.inl ⟨v, ⟨(({ U with heap := s₂.heap, slotsUsed := s₂.slotsUsed } : State).setVm s₂.vm), Ls ++ L, c0 + mc, s0 + ms⟩,
      ⟨X.admits, X.cas, X.clock, X.frames, X.room, X.hears, X.method, X.code, (X.here.setHeapUsed s₂.heap s₂.slotsUsed).setVm hW'.alike, X.tail, State.WarmedH.trans X.warmed hW', X.limits, X.bytes, X.same.trans (hsame.setVm s.vm)⟩,
      ⟨g, mk, s₂, L, rfl, rfl, hqc, rfl, hL, rfl, rfl⟩, ?_⟩
    show Steps p.tables e below _ ((({ U with heap := s₂.heap, slotsUsed := s₂.slotsUsed } : State).setVm s₂.vm).setTop { g with pc := g.pc + len₂, stack := v.toList ++ g.stack })
    rw [← hs₂]
    exact hsteps
  · obtain ⟨e2, q2, q3, q4, q5, q6⟩ := id hsm
    have e3 : s₂ = ({ (U.calling g mk a).setFrames s₂.frames with heap := s₂.heap, slotsUsed := s₂.slotsUsed } : State).setVm s₂.vm := by
      have : s₂ = ({ s₂ with vm := (U.calling g mk a).vm } : State).setVm s₂.vm := rfl
      rw [e2] at this
      exact this
    have hf₂ : s₂.frames = .throwing q :: .java g :: U.frames.tail := hend
    have hW' : U.WarmedH s₂.vm := hW₂
    have hs₂ : s₂ = ((({ U with heap := s₂.heap, slotsUsed := s₂.slotsUsed } : State).setVm s₂.vm).setTop g).pushFrame (.throwing q) := by
      refine e3.trans ?_
      rw [hf₂, State.calling_eq h.top, State.setFrames_setFrames, State.pushFrame, State.frames_setTop _ hr', State.setTop_of_frames _ hr', State.setFrames_setFrames, hr]
      rfl
    have hsame : U.sameButNew ({ U with heap := s₂.heap, slotsUsed := s₂.slotsUsed } : State) L mc ms := by
      refine ⟨?_, q2, q3, q4, q5, q6⟩
      obtain ⟨t, ht, -⟩ := State.frames_cons hr
      show ({ U with heap := s₂.heap, slotsUsed := s₂.slotsUsed } : State) = { U.setFrames U.frames with heap := s₂.heap, slotsUsed := s₂.slotsUsed }
      rw [State.setFrames_self ht]
    subst hg
    refine Or.inr ⟨q, ⟨(({ U with heap := s₂.heap, slotsUsed := s₂.slotsUsed } : State).setVm s₂.vm), Ls ++ L, c0 + mc, s0 + ms⟩,
      ⟨X.admits, X.cas, X.clock, X.frames, X.room, X.hears, X.method, X.code, (X.here.setHeapUsed s₂.heap s₂.slotsUsed).setVm hW'.alike, X.tail, State.WarmedH.trans X.warmed hW', X.limits, X.bytes, X.same.trans (hsame.setVm s.vm)⟩,
      ⟨g, mk, s₂, L, E, ce, rfl, rfl, hx, hce, hcv, hcl, rfl, hL, rfl, rfl⟩, ?_⟩
    show Steps p.tables e below _ (((({ U with heap := s₂.heap, slotsUsed := s₂.slotsUsed } : State).setVm s₂.vm).setTop g).pushFrame (.throwing q))
    rw [← hs₂]
    exact hsteps
end
variable {p : Program} {l : Launch} {e : Env} {R : Room} {s : State} {m : MethodId} {args : Array Value} {below : List Frame} {meth : Method} {c : Code} {T : State} {H : Heap} {locs : List Loc} {cells slots : Nat}
theorem vx_callVX (X : Stand p l e R s m args below meth c T locs cells slots) (hexec : p.tables.exec = Jvm.exec) {own C : String} {index : Nat} {y : MethodName} {bytes : ByteArray} {maxL : Nat} {ret : Option FieldType} {hh : List (Nat × Nat × Nat × Nat)}
    (hown : s.vm.findClass own = some m.cls) (hlink : (Cond.methodLink own index y).before args s = true) (hinst : (Cond.instanceMethod y).before args s = true) (hsel : (Cond.selects C y y).before args s = true)
    (hcode : (Cond.codeWith y bytes maxL ret hh).before args s = true) (hy : y.cls ≠ "java/lang/invoke/MethodHandle" ∧ y.cls ≠ "java/lang/invoke/VarHandle")
    {W9 : Nat} {Pre : Pt → Array Value → Prop} {Post : Pt → Array Value → Option Value → Pt → Prop} {PostX : Pt → Array Value → Addr → Pt → Prop} (hK : vx_Back l R p e below s args y 3 W9 Pre Post PostX)
    {b : Addr} {cellB : Cell} (hcell : T.heap[b]? = some cellB) (hobj : cellB.vm.isStatics = false) (hcls : s.vm.findClass C = some cellB.cls)
    {g : JFrame} (hg : g.method = m) (hsize : g.locals.size = c.maxLocals) {argsL rest : List Value} (hlen : ∀ sig, parseMethodDescriptor y.desc = some sig → argsL.length = sig.parameters.length)
    (hstack : g.stack = argsL.reverse ++ .ref b :: rest) (hW : 2 * g.monitorRoom + (rest.map fun v => v.category).sum ≤ W9) (hdg : decode c.code g.pc = .ok (.invokevirtual index, 3))
    (hpre : ∀ vm₁, s.WarmedH vm₁ → Pre ⟨T.setVm vm₁, locs, cells, slots⟩ (Value.ref b :: argsL).toArray) :
    (∃ (v : Option Value) (vm₁ : Vm) (B : Pt), s.WarmedH vm₁ ∧ Stand p l e R s m args below meth c B.U B.locs B.cells B.slots ∧ Post ⟨T.setVm vm₁, locs, cells, slots⟩ (Value.ref b :: argsL).toArray v B ∧
      ∀ target, Steps p.tables e below (B.U.setTop { g with pc := g.pc + 3, stack := v.toList ++ rest }) target → Steps p.tables e below (T.setTop g) target) ∨
    (∃ (q : Addr) (vm₁ : Vm) (B : Pt), s.WarmedH vm₁ ∧ Stand p l e R s m args below meth c B.U B.locs B.cells B.slots ∧ PostX ⟨T.setVm vm₁, locs, cells, slots⟩ (Value.ref b :: argsL).toArray q B ∧
      Steps p.tables e below (T.setTop g) ((B.U.setTop { g with stack := rest }).pushFrame (.throwing q))) := by
  obtain ⟨mk, methM, hnamed, hmethM, hstM, habM⟩ := Cond.instanceMethod_spec hinst
  obtain ⟨m8, methM', cM, hn8, hmethM', -, -, -, -, -, -, hsigM⟩ := Cond.codeWith_spec hcode
  cases Option.some.inj (hn8.symm.trans hnamed)
  cases hmethM.symm.trans hmethM'
  obtain ⟨c2, r2, m2, q1, q2, q3, q4, kP, hkP, hkPi⟩ := Cond.selects_spec hsel
  cases hcls.symm.trans q1
  cases (State.methodFound?_of_named hnamed hy).symm.trans q2
  cases hnamed.symm.trans q3
  have hselP : selectMethod e.platform s.vm cellB.cls mk = .method mk := by rw [Launch.admits_selectMethod X.admits]; exact q4
  obtain ⟨vm₁, X₁, hstep₁⟩ := X.invokevirtual hexec hown hlink hnamed hmethM hstM hkP hkPi hy (a := b) (cell := cellB) hcell
    (fun z h => by rw [h] at hobj; cases hobj) hselP hmethM habM hkP hkPi (g := g) hg (argsL := argsL) (rest := rest) (hlen _ hsigM) hstack hdg
  rcases hK m meth c ⟨T.setVm vm₁, locs, cells, slots⟩ { g with stack := rest } (.invokevirtual index) mk (Value.ref b :: argsL).toArray X₁ hg hsize hdg hW (X₁.named hnamed) (hpre vm₁ X₁.warmed) with ⟨v, B, X', hpost, hsteps⟩ | ⟨q, B, X', hpost, hsteps⟩
  · exact Or.inl ⟨v, vm₁, B, X₁.warmed, X', hpost, fun target h => hstep₁ _ fun acts => by rw [doInvoke_state]; exact hsteps.trans h⟩
  · exact Or.inr ⟨q, vm₁, B, X₁.warmed, X', hpost, hstep₁ _ fun acts => by rw [doInvoke_state]; exact hsteps⟩
theorem vx_callSX (X : Stand p l e R s m args below meth c T locs cells slots) (hexec : p.tables.exec = Jvm.exec) {own : String} {index : Nat} {y : MethodName} {bytes : ByteArray} {maxL : Nat} {ret : Option FieldType} {hh : List (Nat × Nat × Nat × Nat)}
    (hown : s.vm.findClass own = some m.cls) (hlink : (Cond.methodLink own index y).before args s = true) (hstat : (Cond.static y).before args s = true) (hinit : (Cond.initialized y.cls).before args s = true)
    (hcode : (Cond.codeWith y bytes maxL ret hh).before args s = true) (hy : y.cls ≠ "java/lang/invoke/MethodHandle" ∧ y.cls ≠ "java/lang/invoke/VarHandle")
    {W9 : Nat} {Pre : Pt → Array Value → Prop} {Post : Pt → Array Value → Option Value → Pt → Prop} {PostX : Pt → Array Value → Addr → Pt → Prop} (hK : vx_Back l R p e below s args y 3 W9 Pre Post PostX)
    {g : JFrame} (hg : g.method = m) (hsize : g.locals.size = c.maxLocals) {argsL rest : List Value} (hlen : ∀ sig, parseMethodDescriptor y.desc = some sig → argsL.length = sig.parameters.length)
    (hstack : g.stack = argsL.reverse ++ rest) (hW : 2 * g.monitorRoom + (rest.map fun v => v.category).sum ≤ W9) (hdg : decode c.code g.pc = .ok (.invokestatic index, 3))
    (hpre : ∀ vm₁, s.WarmedH vm₁ → Pre ⟨T.setVm vm₁, locs, cells, slots⟩ argsL.toArray) :
    (∃ (v : Option Value) (vm₁ : Vm) (B : Pt), s.WarmedH vm₁ ∧ Stand p l e R s m args below meth c B.U B.locs B.cells B.slots ∧ Post ⟨T.setVm vm₁, locs, cells, slots⟩ argsL.toArray v B ∧
      ∀ target, Steps p.tables e below (B.U.setTop { g with pc := g.pc + 3, stack := v.toList ++ rest }) target → Steps p.tables e below (T.setTop g) target) ∨
    (∃ (q : Addr) (vm₁ : Vm) (B : Pt), s.WarmedH vm₁ ∧ Stand p l e R s m args below meth c B.U B.locs B.cells B.slots ∧ PostX ⟨T.setVm vm₁, locs, cells, slots⟩ argsL.toArray q B ∧
      Steps p.tables e below (T.setTop g) ((B.U.setTop { g with stack := rest }).pushFrame (.throwing q))) := by
  obtain ⟨mk, methM, cM, hnamed, hmethM, -, -, -, -, -, -, hsigM⟩ := Cond.codeWith_spec hcode
  have hstatic : methM.isStatic = true := Cond.static_spec hnamed hmethM hstat
  obtain ⟨kP, hkP, -⟩ := className_of_methodNamed hnamed
  have hinitP : kP.init = .initialized := Cond.initialized_spec (findClass_of_methodNamed hnamed) hkP hinit
  obtain ⟨vm₁, X₁, hstep₁⟩ := X.invokestatic hexec hown hlink hnamed hmethM hstatic hkP hinitP hy (g := g) hg (argsL := argsL) (rest := rest) (hlen _ hsigM) hstack hdg
  rcases hK m meth c ⟨T.setVm vm₁, locs, cells, slots⟩ { g with stack := rest } (.invokestatic index) mk argsL.toArray X₁ hg hsize hdg hW (X₁.named hnamed) (hpre vm₁ X₁.warmed) with ⟨v, B, X', hpost, hsteps⟩ | ⟨q, B, X', hpost, hsteps⟩
  · exact Or.inl ⟨v, vm₁, B, X₁.warmed, X', hpost, fun target h => hstep₁ _ fun acts => by rw [doInvoke_state]; exact hsteps.trans h⟩
  · exact Or.inr ⟨q, vm₁, B, X₁.warmed, X', hpost, hstep₁ _ fun acts => by rw [doInvoke_state]; exact hsteps⟩
theorem vx_callVW (X : Stand p l e R s m args below meth c T locs cells slots) (hexec : p.tables.exec = Jvm.exec) {own C : String} {index : Nat} {y : MethodName} {bytes : ByteArray} {maxL : Nat} {ret : Option FieldType} {hh : List (Nat × Nat × Nat × Nat)}
    (hown : s.vm.findClass own = some m.cls) (hlink : (Cond.methodLink own index y).before args s = true) (hinst : (Cond.instanceMethod y).before args s = true) (hsel : (Cond.selects C y y).before args s = true)
    (hcode : (Cond.codeWith y bytes maxL ret hh).before args s = true) (hy : y.cls ≠ "java/lang/invoke/MethodHandle" ∧ y.cls ≠ "java/lang/invoke/VarHandle")
    {W9 : Nat} {Pre : Pt → Array Value → Prop} {Post : Pt → Array Value → Option Value → Pt → Prop} (hK : Back l R p e below s args y 3 W9 Pre Post)
    {b : Addr} {cellB : Cell} (hcell : T.heap[b]? = some cellB) (hobj : cellB.vm.isStatics = false) (hcls : s.vm.findClass C = some cellB.cls)
    {g : JFrame} (hg : g.method = m) (hsize : g.locals.size = c.maxLocals) {argsL rest : List Value} (hlen : ∀ sig, parseMethodDescriptor y.desc = some sig → argsL.length = sig.parameters.length)
    (hstack : g.stack = argsL.reverse ++ .ref b :: rest) (hW : 2 * g.monitorRoom + (rest.map fun v => v.category).sum ≤ W9) (hdg : decode c.code g.pc = .ok (.invokevirtual index, 3))
    (hpre : ∀ vm₁, s.WarmedH vm₁ → Pre ⟨T.setVm vm₁, locs, cells, slots⟩ (Value.ref b :: argsL).toArray) :
    ∃ (v : Option Value) (vm₁ : Vm) (B : Pt), s.WarmedH vm₁ ∧ Stand p l e R s m args below meth c B.U B.locs B.cells B.slots ∧ Post ⟨T.setVm vm₁, locs, cells, slots⟩ (Value.ref b :: argsL).toArray v B ∧
      ∀ target, Steps p.tables e below (B.U.setTop { g with pc := g.pc + 3, stack := v.toList ++ rest }) target → Steps p.tables e below (T.setTop g) target := by
  obtain ⟨mk, methM, hnamed, hmethM, hstM, habM⟩ := Cond.instanceMethod_spec hinst
  obtain ⟨m8, methM', cM, hn8, hmethM', -, -, -, -, -, -, hsigM⟩ := Cond.codeWith_spec hcode
  cases Option.some.inj (hn8.symm.trans hnamed)
  cases hmethM.symm.trans hmethM'
  obtain ⟨c2, r2, m2, q1, q2, q3, q4, kP, hkP, hkPi⟩ := Cond.selects_spec hsel
  cases hcls.symm.trans q1
  cases (State.methodFound?_of_named hnamed hy).symm.trans q2
  cases hnamed.symm.trans q3
  have hselP : selectMethod e.platform s.vm cellB.cls mk = .method mk := by rw [Launch.admits_selectMethod X.admits]; exact q4
  obtain ⟨vm₁, X₁, hstep₁⟩ := X.invokevirtual hexec hown hlink hnamed hmethM hstM hkP hkPi hy (a := b) (cell := cellB) hcell
    (fun z h => by rw [h] at hobj; cases hobj) hselP hmethM habM hkP hkPi (g := g) hg (argsL := argsL) (rest := rest) (hlen _ hsigM) hstack hdg
  obtain ⟨v, B, X', hpost, hsteps⟩ := hK m meth c ⟨T.setVm vm₁, locs, cells, slots⟩ { g with stack := rest } (.invokevirtual index) mk (Value.ref b :: argsL).toArray X₁ hg hsize hdg hW (X₁.named hnamed) (hpre vm₁ X₁.warmed)
  exact ⟨v, vm₁, B, X₁.warmed, X', hpost, fun target h => hstep₁ _ fun acts => by rw [doInvoke_state]; exact hsteps.trans h⟩
abbrev vx_CVW (R : Room) (s : State) (args : Array Value) (own C : String) (index : Nat) (y : MethodName) (bytes : ByteArray) (maxL : Nat) (ret : Option FieldType) (hh : List (Nat × Nat × Nat × Nat)) (ws : List Cond) (rm : Room) (mc ms n : Nat) : Prop :=
  (rm.cells = mc ∧ rm.slots = ms ∧ rm.frames + 1 ≤ R.frames ∧ 8 + (maxL + 11) + rm.locals ≤ R.locals ∧ (∀ w ∈ ws, ∀ (a' : Array Value) (U : State), s.WarmedH U.vm → w.before a' U = true) ∧ Cond.codeWith y bytes maxL ret hh ∈ ws) ∧
  (Cond.codeWith y bytes maxL ret hh).before args s = true ∧ (Cond.initialized y.cls).before args s = true ∧ (y.cls ≠ "java/lang/invoke/MethodHandle" ∧ y.cls ≠ "java/lang/invoke/VarHandle") ∧
  (∀ sig, parseMethodDescriptor y.desc = some sig → n = sig.parameters.length) ∧ (Cond.methodLink own index y).before args s = true ∧ (Cond.instanceMethod y).before args s = true ∧ (Cond.selects C y y).before args s = true
theorem vx_cwVW {own C : String} {index maxL mc ms : Nat} {y : MethodName} {bytes : ByteArray} {ret : Option FieldType} {hh : List (Nat × Nat × Nat × Nat)} {Ts ws ws' : List Cond} {rm : Room} (n : Nat) (ht : ∀ w ∈ Ts, w.before args s = true) (hT : GoodIn Ts (wsV own index C y ws)) (hw : ws = Cond.codeWith y bytes maxL ret hh :: ws') (hrc : rm.cells = mc) (hrs : rm.slots = ms)
    (hd : y.cls = C ∧ y.cls ≠ "java/lang/invoke/MethodHandle" ∧ y.cls ≠ "java/lang/invoke/VarHandle" ∧ (parseMethodDescriptor y.desc).map (fun d => d.parameters.length) = some n) (hR : rm.frames + 1 ≤ R.frames ∧ 8 + (maxL + 11) + rm.locals ≤ R.locals) :
    vx_CVW R s args own C index y bytes maxL ret hh ws rm mc ms n := by
  obtain ⟨hC, hd⟩ := hd
  subst hC
  have ok : ∀ w ∈ wsV own index y.cls y ws, w.before args s = true := fun w h => ht w (hT w h).1
  have hG : GoodIn Ts ws := fun w h => hT w (by unfold wsV; exact List.mem_append_right _ h)
  have hc : Cond.codeWith y bytes maxL ret hh ∈ ws := by rw [hw]; exact List.mem_cons_self
  refine ⟨⟨hrc, hrs, hR.1, hR.2, pay_in ht hG, hc⟩, ht _ (hG _ hc).1, ok _ (by simp [wsV]), ⟨hd.1, hd.2.1⟩, fun sig h => ?_, ok _ (by simp [wsV]), ok _ (by simp [wsV]), ok _ (by simp [wsV])⟩
  have h2 := hd.2.2
  rw [h] at h2
  exact (Option.some.inj h2).symm
theorem vx_runVW {y : MethodName} {bytes cc : ByteArray} {maxL nL mc ms n index : Nat} {ret : Option FieldType} {hh : List (Nat × Nat × Nat × Nat)} {ws : List Cond} {rm : Room} {Pc : Array Value → State → Prop} {Qc : Array Value → State → Outcome → State → Prop} {free : Addr → Prop} {Ts : List Cond} {own C : String} {b : Addr} {As rest : List Value} {g : JFrame}
    (S : CallFix p m c cc nL s args Ts own) (hM : Met l y ws rm Pc Qc mc ms free) (cw : vx_CVW R s args own C index y bytes maxL ret hh ws rm mc ms n) (hp : PreV s H C b Pc As)
    (hg : g.method = m) (hn : As.length = n) (hsize : g.locals.size = nL) (hstack : g.stack = As.reverse ++ .ref b :: rest) (hW : 2 * g.monitorRoom + (rest.map fun v => v.category).sum ≤ 8) (hdg : decode cc g.pc = .ok (.invokevirtual index, 3)) (hf : cells + mc ≤ R.cells ∧ slots + ms ≤ R.slots) :
    va_Run p l e R s m args below meth c H locs cells slots mc ms g rest (Qc (Value.ref b :: As).toArray) free := by
  obtain ⟨⟨hrc, hrs, hfr, hlo, hws, hcw⟩, hcode, hini, hy, hlen, hl, hin, hse⟩ := cw
  have hK : Back l R p e below s args y 3 8 (PreOf R mc ms Pc) (PostOf Qc mc ms free) := va_backW (hh := hh) (bytes := bytes) (maxL := maxL) (ret := ret) hM hp.1 hrc hrs hfr hlo hws hcw (fun a' U hW => word_at hW (Or.inl (by first | rfl | simp [Cond.onTables, Cond.keeps, Cond.steady])) hini)
  obtain ⟨hx, hb, hml, ho, -⟩ := S
  obtain ⟨-, ⟨cellB, hcB, hoB, hclB⟩, hPc⟩ := hp
  intro T hT X
  obtain ⟨v, vm₁, ⟨U', l2, c2, s2⟩, hW₁, X', ⟨g', mk, t, L, e1, e2, hq, h1, hL, h2, h3⟩, st⟩ := vx_callVW X hx (C := C) (hh := hh) (bytes := bytes) (maxL := maxL) (ret := ret) ho hl hin hse hcode hy hK (by rw [hT]; exact hcB) hoB hclB hg (hsize.trans hml.symm) (argsL := As) (rest := rest) (fun sig h => hn.trans (hlen sig h)) hstack hW (by rw [hb]; exact hdg)
    (fun vm₁ hW₁ => ⟨hf.1, hf.2, hPc (T.setVm vm₁) hT hW₁⟩)
  dsimp only [Pt.U, Pt.locs, Pt.cells, Pt.slots] at X' e1 e2 h1 h2 h3 st
  subst h1; subst h2; subst h3
  exact ⟨v, (T.setVm vm₁).calling g' mk (Value.ref b :: As).toArray, t, U', L, hT, X', hL, e1, e2, hq, st⟩
section
variable {y : MethodName} {bytes cc : ByteArray} {maxL nL mc ms n index : Nat} {ret : Option FieldType} {ws : List Cond} {rm : Room} {Pc : Array Value → State → Prop} {Qc : Array Value → State → Outcome → State → Prop} {XC : String → State → State → Prop} {free : Addr → Prop} {Ts : List Cond} {own C : String} {b : Addr} {As rest : List Value} {g : JFrame}
theorem vx_runVX {hh : List (Nat × Nat × Nat × Nat)} (S : CallFix p m c cc nL s args Ts own) (hM : vx_Met l y ws rm Pc Qc XC mc ms free) (cw : vx_CVW R s args own C index y bytes maxL ret hh ws rm mc ms n) (hp : PreV s H C b Pc As)
    (hg : g.method = m) (hn : As.length = n) (hsize : g.locals.size = nL) (hstack : g.stack = As.reverse ++ .ref b :: rest) (hW : 2 * g.monitorRoom + (rest.map fun v => v.category).sum ≤ 8) (hdg : decode cc g.pc = .ok (.invokevirtual index, 3)) (hf : cells + mc ≤ R.cells ∧ slots + ms ≤ R.slots) :
    vx_Run p l e R s m args below meth c H locs cells slots mc ms g rest (Qc (Value.ref b :: As).toArray) XC free := by
  obtain ⟨⟨hrc, hrs, hfr, hlo, hws, hcw⟩, hcode, hini, hy, hlen, hl, hin, hse⟩ := cw
  have hK : vx_Back l R p e below s args y 3 8 (PreOf R mc ms Pc) (PostOf Qc mc ms free) (vx_Post XC mc ms free) := vx_backW (hh := hh) (bytes := bytes) (maxL := maxL) (ret := ret) hM hp.1 hrc hrs hfr hlo hws hcw (fun a' U hW => word_at hW (Or.inl (by first | rfl | simp [Cond.onTables, Cond.keeps, Cond.steady])) hini)
  obtain ⟨hx, hb, hml, ho, -⟩ := S
  obtain ⟨-, ⟨cellB, hcB, hoB, hclB⟩, hPc⟩ := hp
  intro T hT X
  rcases vx_callVX X hx (C := C) (hh := hh) (bytes := bytes) (maxL := maxL) (ret := ret) ho hl hin hse hcode hy hK (by rw [hT]; exact hcB) hoB hclB hg (hsize.trans hml.symm) (argsL := As) (rest := rest) (fun sig h => hn.trans (hlen sig h)) hstack hW (by rw [hb]; exact hdg)
    (fun vm₁ hW₁ => ⟨hf.1, hf.2, hPc (T.setVm vm₁) hT hW₁⟩) with ⟨v, vm₁, ⟨U', l2, c2, s2⟩, hW₁, X', ⟨g', mk, t, L, e1, e2, hq, h1, hL, h2, h3⟩, st⟩ | ⟨q, vm₁, ⟨U', l2, c2, s2⟩, hW₁, X', ⟨g', mk, t, L, E, ce, e1, e2, hq, hce, hcv, hcl, h1, hL, h2, h3⟩, st⟩
  · dsimp only [Pt.U, Pt.locs, Pt.cells, Pt.slots] at X' e1 e2 h1 h2 h3 st
    subst h1; subst h2; subst h3
    exact Or.inl ⟨v, (T.setVm vm₁).calling g' mk (Value.ref b :: As).toArray, t, U', L, hT, X', hL, e1, e2, hq, st⟩
  · dsimp only [Pt.U, Pt.locs, Pt.cells, Pt.slots] at X' e1 e2 h1 h2 h3 st hcl
    subst h1; subst h2; subst h3
    exact Or.inr ⟨q, (T.setVm vm₁).calling g' mk (Value.ref b :: As).toArray, t, U', L, E, ce, hT, X', hL, e1, e2, hq, hce, hcv, vx_cls hW₁ hcl, st⟩
theorem vx_runSX {hh : List (Nat × Nat × Nat × Nat)} (S : CallFix p m c cc nL s args Ts own) (hM : vx_Met l y ws rm Pc Qc XC mc ms free) (cw : vx_CSW R s args own index y bytes maxL ret hh ws rm mc ms n) (hp : PreS s H Pc As)
    (hg : g.method = m) (hn : As.length = n) (hsize : g.locals.size = nL) (hstack : g.stack = As.reverse ++ rest) (hW : 2 * g.monitorRoom + (rest.map fun v => v.category).sum ≤ 8) (hdg : decode cc g.pc = .ok (.invokestatic index, 3)) (hf : cells + mc ≤ R.cells ∧ slots + ms ≤ R.slots) :
    vx_Run p l e R s m args below meth c H locs cells slots mc ms g rest (Qc As.toArray) XC free := by
  obtain ⟨⟨hrc, hrs, hfr, hlo, hws, hcw⟩, hcode, hini, hy, hlen, hl, hstt⟩ := cw
  have hK : vx_Back l R p e below s args y 3 8 (PreOf R mc ms Pc) (PostOf Qc mc ms free) (vx_Post XC mc ms free) := vx_backW (hh := hh) (bytes := bytes) (maxL := maxL) (ret := ret) hM hp.1 hrc hrs hfr hlo hws hcw (fun a' U hW => word_at hW (Or.inl (by first | rfl | simp [Cond.onTables, Cond.keeps, Cond.steady])) hini)
  obtain ⟨hx, hb, hml, ho, -⟩ := S
  intro T hT X
  rcases vx_callSX X hx (hh := hh) (bytes := bytes) (maxL := maxL) (ret := ret) ho hl hstt hini hcode hy hK hg (hsize.trans hml.symm) (argsL := As) (rest := rest) (fun sig h => hn.trans (hlen sig h)) hstack hW (by rw [hb]; exact hdg)
    (fun vm₁ hW₁ => ⟨hf.1, hf.2, hp.2 (T.setVm vm₁) hT hW₁⟩) with ⟨v, vm₁, ⟨U', l2, c2, s2⟩, hW₁, X', ⟨g', mk, t, L, e1, e2, hq, h1, hL, h2, h3⟩, st⟩ | ⟨q, vm₁, ⟨U', l2, c2, s2⟩, hW₁, X', ⟨g', mk, t, L, E, ce, e1, e2, hq, hce, hcv, hcl, h1, hL, h2, h3⟩, st⟩
  · dsimp only [Pt.U, Pt.locs, Pt.cells, Pt.slots] at X' e1 e2 h1 h2 h3 st
    subst h1; subst h2; subst h3
    exact Or.inl ⟨v, (T.setVm vm₁).calling g' mk As.toArray, t, U', L, hT, X', hL, e1, e2, hq, st⟩
  · dsimp only [Pt.U, Pt.locs, Pt.cells, Pt.slots] at X' e1 e2 h1 h2 h3 st hcl
    subst h1; subst h2; subst h3
    exact Or.inr ⟨q, (T.setVm vm₁).calling g' mk As.toArray, t, U', L, E, ce, hT, X', hL, e1, e2, hq, hce, hcv, vx_cls hW₁ hcl, st⟩
end
end VXH
theorem vx_ofWH {l : Launch} {y : MethodName} {ws ws' : List Cond} {rm : Room} {Pc : Array Value → State → Prop} {Qc : Array Value → State → Outcome → State → Prop} {XC : String → State → State → Prop} {mc ms : Nat} {free : Addr → Prop} {cc : ByteArray} {maxL : Nat} {ret : Option FieldType} {hh : List (Nat × Nat × Nat × Nat)}
    (hy : plainName y.cls = true) (hw : ws = Cond.codeWith y cc maxL ret hh :: ws')
    (body : ∀ p e s m args below meth c s₁, BodyLoose p l y (headSpec ws rm) cc maxL ret e s m args below meth c s₁ → c.maxLocals = maxL → Pc args s →
      W p l e (headSpec ws rm).room s m args below meth c s.heap [] 0 0 (vx_MQ below Qc XC args s mc ms free) (entryFrame m args maxL)) : vx_Met l y ws rm Pc Qc XC mc ms free := by
  refine MetFree.of_bodyS (code := cc) (maxLocals := maxL) (ret := ret) hy ?_ ?_
  · intro args s m h hn
    obtain ⟨m9, meth, c, hn9, h1, h2, h3, h4, -, h5, h6, -⟩ := Cond.codeWith_spec (atoms_spec (ws := ws) h _ (by rw [hw]; exact List.mem_cons_self))
    cases hn.symm.trans hn9
    exact ⟨meth, c, h1, h2, h3, h4, h5, h6⟩
  · intro p e s m args below meth c s₁ B hml hP _
    have hh0 : s₁.heap = s.heap := by rw [B.state]; rfl
    obtain ⟨t, a1, o, b1, b2, b3⟩ := body p e s m args below meth c s₁ B hml hP s₁ hh0 (Stand.of_body B)
    exact ⟨t, o, a1, b1, b2, b3⟩
/-! ===== END ===== -/
end
section
def RX0 : String := "BridgedCatalogs$Catalog"
def TX0 : u_T := fun k => match k with
  | 0 => ("BridgedCatalogs$Catalog", "parent", "I", false)
  | 1 => ("BridgedCatalogs$Catalog", "left", "I", false)
  | 2 => ("BridgedCatalogs$Catalog", "right", "I", false)
  | 3 => ("BridgedCatalogs$Catalog", "depth", "I", false)
  | 4 => ("BridgedCatalogs$Catalog", "marked", "I", false)
  | 5 => ("BridgedCatalogs$Catalog", "base", "LBridgedCatalogs$Row;", true)
  | 6 => ("BridgedCatalogs$Catalog", "marks", "LBridgedCatalogs$Row;", true)
  | 7 => ("BridgedCatalogs$Catalog", "buffer", "LBridgedCatalogs$Row;", true)
  | _ => ("BridgedCatalogs$Catalog", "list", "LBridgedCatalogs$Listing;", true)
def tyX0 : Nat → FieldType := fun k => match k with
  | 0 => .int
  | 1 => .int
  | 2 => .int
  | 3 => .int
  | 4 => .int
  | 5 => .object "BridgedCatalogs$Row"
  | 6 => .object "BridgedCatalogs$Row"
  | 7 => .object "BridgedCatalogs$Row"
  | _ => .object "BridgedCatalogs$Listing"
abbrev wsX00 : List Cond := u_ws RX0 TX0 9
theorem nmX0 : ∀ a, a < 9 → ∀ b, b < 9 → a ≠ b → (TX0 a).2.1 ≠ (TX0 b).2.1 := by decide +kernel
theorem tyX0_ok : ∀ k, k < 9 → parseFieldDescriptor (TX0 k).2.2.1 = some (tyX0 k) := by decide +kernel
abbrev cX0_init : ByteArray := prog_2_method_1_code
def yX0_init : MethodName := ⟨RX0, "<init>", "()V"⟩
abbrev cX0_child : ByteArray := prog_2_method_2_code
def yX0_child : MethodName := ⟨RX0, "child", "(I)I"⟩
abbrev cX0_isMarked : ByteArray := prog_2_method_3_code
def yX0_isMarked : MethodName := ⟨RX0, "isMarked", "(I)Z"⟩
abbrev cX0_keyCount : ByteArray := prog_2_method_4_code
def yX0_keyCount : MethodName := ⟨RX0, "keyCount", "()I"⟩
abbrev cX0_isFull : ByteArray := prog_2_method_5_code
def yX0_isFull : MethodName := ⟨RX0, "isFull", "()Z"⟩
abbrev cX0_holds : ByteArray := prog_2_method_6_code
def yX0_holds : MethodName := ⟨RX0, "holds", "(I)Z"⟩
abbrev cX0_takeIn : ByteArray := prog_2_method_7_code
def yX0_takeIn : MethodName := ⟨RX0, "takeIn", "(I)Z"⟩
abbrev cX0_letGo : ByteArray := prog_2_method_8_code
def yX0_letGo : MethodName := ⟨RX0, "letGo", "(I)Z"⟩
abbrev cX0_settle : ByteArray := prog_2_method_9_code
def yX0_settle : MethodName := ⟨RX0, "settle", "()V"⟩
abbrev cX0_firstUnmarked : ByteArray := prog_2_method_10_code
def yX0_firstUnmarked : MethodName := ⟨RX0, "firstUnmarked", "(I)I"⟩
abbrev cX0_leastBuffered : ByteArray := prog_2_method_11_code
def yX0_leastBuffered : MethodName := ⟨RX0, "leastBuffered", "(II)I"⟩
abbrev cX0_keyInOrder : ByteArray := prog_2_method_12_code
def yX0_keyInOrder : MethodName := ⟨RX0, "keyInOrder", "(I)I"⟩
abbrev cX0_begin : ByteArray := prog_2_method_13_code
def yX0_begin : MethodName := ⟨RX0, "begin", "(II)V"⟩
abbrev cX0_copyFrom : ByteArray := prog_2_method_14_code
def yX0_copyFrom : MethodName := ⟨RX0, "copyFrom", "(LBridgedCatalogs$Catalog;)V"⟩
def RX1 : String := "BridgedCatalogs$History"
def TX1 : u_T := fun k => match k with
  | 0 => ("BridgedCatalogs$History", "saved", "[LBridgedCatalogs$Tree;", true)
  | 1 => ("BridgedCatalogs$History", "next", "I", false)
  | _ => ("BridgedCatalogs$History", "size", "I", false)
def tyX1 : Nat → FieldType := fun k => match k with
  | 0 => .array (.object "BridgedCatalogs$Tree")
  | 1 => .int
  | _ => .int
abbrev wsX10 : List Cond := u_ws RX1 TX1 3
theorem nmX1 : ∀ a, a < 3 → ∀ b, b < 3 → a ≠ b → (TX1 a).2.1 ≠ (TX1 b).2.1 := by decide +kernel
theorem tyX1_ok : ∀ k, k < 3 → parseFieldDescriptor (TX1 k).2.2.1 = some (tyX1 k) := by decide +kernel
abbrev cX1_init : ByteArray := prog_3_method_1_code
def yX1_init : MethodName := ⟨RX1, "<init>", "()V"⟩
abbrev cX1_save : ByteArray := prog_3_method_2_code
def yX1_save : MethodName := ⟨RX1, "save", "(LBridgedCatalogs$Tree;)V"⟩
abbrev cX1_restore : ByteArray := prog_3_method_3_code
def yX1_restore : MethodName := ⟨RX1, "restore", "(LBridgedCatalogs$Tree;)V"⟩
abbrev cX1_savedAt : ByteArray := prog_3_method_4_code
def yX1_savedAt : MethodName := ⟨RX1, "savedAt", "(I)LBridgedCatalogs$Tree;"⟩
def RX2 : String := "BridgedCatalogs$Listing"
def TX2 : u_T := fun k => match k with
  | 0 => ("BridgedCatalogs$Listing", "keys", "LBridgedCatalogs$Row;", true)
  | 1 => ("BridgedCatalogs$Listing", "origins", "LBridgedCatalogs$Row;", true)
  | 2 => ("BridgedCatalogs$Listing", "toBase", "LBridgedCatalogs$Row;", true)
  | 3 => ("BridgedCatalogs$Listing", "toLeft", "LBridgedCatalogs$Row;", true)
  | _ => ("BridgedCatalogs$Listing", "toRight", "LBridgedCatalogs$Row;", true)
def tyX2 : Nat → FieldType := fun k => match k with
  | 0 => .object "BridgedCatalogs$Row"
  | 1 => .object "BridgedCatalogs$Row"
  | 2 => .object "BridgedCatalogs$Row"
  | 3 => .object "BridgedCatalogs$Row"
  | _ => .object "BridgedCatalogs$Row"
abbrev wsX20 : List Cond := u_ws RX2 TX2 5
theorem nmX2 : ∀ a, a < 5 → ∀ b, b < 5 → a ≠ b → (TX2 a).2.1 ≠ (TX2 b).2.1 := by decide +kernel
theorem tyX2_ok : ∀ k, k < 5 → parseFieldDescriptor (TX2 k).2.2.1 = some (tyX2 k) := by decide +kernel
abbrev cX2_init : ByteArray := prog_4_method_1_code
def yX2_init : MethodName := ⟨RX2, "<init>", "()V"⟩
abbrev cX2_size : ByteArray := prog_4_method_2_code
def yX2_size : MethodName := ⟨RX2, "size", "()I"⟩
abbrev cX2_bridgeOf : ByteArray := prog_4_method_3_code
def yX2_bridgeOf : MethodName := ⟨RX2, "bridgeOf", "(II)I"⟩
abbrev cX2_build : ByteArray := prog_4_method_4_code
def yX2_build : MethodName := ⟨RX2, "build", "(LBridgedCatalogs$Row;LBridgedCatalogs$Row;LBridgedCatalogs$Row;I)V"⟩
abbrev cX2_layBridges : ByteArray := prog_4_method_5_code
def yX2_layBridges : MethodName := ⟨RX2, "layBridges", "(LBridgedCatalogs$Row;LBridgedCatalogs$Row;)V"⟩
abbrev cX2_copyFrom : ByteArray := prog_4_method_6_code
def yX2_copyFrom : MethodName := ⟨RX2, "copyFrom", "(LBridgedCatalogs$Listing;)V"⟩
def RX3 : String := "BridgedCatalogs$Row"
def TX3 : u_T := fun k => match k with
  | 0 => ("BridgedCatalogs$Row", "cells", "[I", true)
  | _ => ("BridgedCatalogs$Row", "size", "I", false)
def tyX3 : Nat → FieldType := fun k => match k with
  | 0 => .array .int
  | _ => .int
abbrev wsX30 : List Cond := u_ws RX3 TX3 2
theorem nmX3 : ∀ a, a < 2 → ∀ b, b < 2 → a ≠ b → (TX3 a).2.1 ≠ (TX3 b).2.1 := by decide +kernel
theorem tyX3_ok : ∀ k, k < 2 → parseFieldDescriptor (TX3 k).2.2.1 = some (tyX3 k) := by decide +kernel
abbrev cX3_init : ByteArray := prog_5_method_1_code
def yX3_init : MethodName := ⟨RX3, "<init>", "(I)V"⟩
abbrev cX3_size : ByteArray := prog_5_method_2_code
def yX3_size : MethodName := ⟨RX3, "size", "()I"⟩
abbrev cX3_at : ByteArray := prog_5_method_3_code
def yX3_at : MethodName := ⟨RX3, "at", "(II)I"⟩
abbrev cX3_put : ByteArray := prog_5_method_4_code
def yX3_put : MethodName := ⟨RX3, "put", "(II)V"⟩
abbrev cX3_append : ByteArray := prog_5_method_5_code
def yX3_append : MethodName := ⟨RX3, "append", "(I)V"⟩
abbrev cX3_insert : ByteArray := prog_5_method_6_code
def yX3_insert : MethodName := ⟨RX3, "insert", "(II)V"⟩
abbrev cX3_cutOut : ByteArray := prog_5_method_7_code
def yX3_cutOut : MethodName := ⟨RX3, "cutOut", "(I)V"⟩
abbrev cX3_cutTo : ByteArray := prog_5_method_8_code
def yX3_cutTo : MethodName := ⟨RX3, "cutTo", "(I)V"⟩
abbrev cX3_indexOf : ByteArray := prog_5_method_9_code
def yX3_indexOf : MethodName := ⟨RX3, "indexOf", "(I)I"⟩
abbrev cX3_firstAtLeast : ByteArray := prog_5_method_10_code
def yX3_firstAtLeast : MethodName := ⟨RX3, "firstAtLeast", "(II)I"⟩
abbrev cX3_copyFrom : ByteArray := prog_5_method_11_code
def yX3_copyFrom : MethodName := ⟨RX3, "copyFrom", "(LBridgedCatalogs$Row;)V"⟩
def RX4 : String := "BridgedCatalogs$Tree"
def TX4 : u_T := fun k => match k with
  | 0 => ("BridgedCatalogs$Tree", "catalogs", "[LBridgedCatalogs$Catalog;", true)
  | 1 => ("BridgedCatalogs$Tree", "root", "LBridgedCatalogs$Catalog;", true)
  | 2 => ("BridgedCatalogs$Tree", "noEntries", "LBridgedCatalogs$Row;", true)
  | 3 => ("BridgedCatalogs$Tree", "size", "I", false)
  | 4 => ("BridgedCatalogs$Tree", "capacity", "I", false)
  | 5 => ("BridgedCatalogs$Tree", "step", "I", false)
  | 6 => ("BridgedCatalogs$Tree", "searches", "I", false)
  | 7 => ("BridgedCatalogs$Tree", "searchProbes", "I", false)
  | 8 => ("BridgedCatalogs$Tree", "builtLists", "I", false)
  | 9 => ("BridgedCatalogs$Tree", "builtEntries", "I", false)
  | _ => ("BridgedCatalogs$Tree", "renewedNodes", "I", false)
def tyX4 : Nat → FieldType := fun k => match k with
  | 0 => .array (.object "BridgedCatalogs$Catalog")
  | 1 => .object "BridgedCatalogs$Catalog"
  | 2 => .object "BridgedCatalogs$Row"
  | 3 => .int
  | 4 => .int
  | 5 => .int
  | 6 => .int
  | 7 => .int
  | 8 => .int
  | 9 => .int
  | _ => .int
abbrev wsX40 : List Cond := u_ws RX4 TX4 11
theorem nmX4 : ∀ a, a < 11 → ∀ b, b < 11 → a ≠ b → (TX4 a).2.1 ≠ (TX4 b).2.1 := by decide +kernel
theorem tyX4_ok : ∀ k, k < 11 → parseFieldDescriptor (TX4 k).2.2.1 = some (tyX4 k) := by decide +kernel
abbrev cX4_init : ByteArray := prog_6_method_1_code
def yX4_init : MethodName := ⟨RX4, "<init>", "()V"⟩
abbrev cX4_at : ByteArray := prog_6_method_2_code
def yX4_at : MethodName := ⟨RX4, "at", "(I)LBridgedCatalogs$Catalog;"⟩
abbrev cX4_grow : ByteArray := prog_6_method_3_code
def yX4_grow : MethodName := ⟨RX4, "grow", "(II)I"⟩
abbrev cX4_takeIn : ByteArray := prog_6_method_4_code
def yX4_takeIn : MethodName := ⟨RX4, "takeIn", "(II)Z"⟩
abbrev cX4_drop : ByteArray := prog_6_method_5_code
def yX4_drop : MethodName := ⟨RX4, "drop", "(II)Z"⟩
abbrev cX4_renew : ByteArray := prog_6_method_6_code
def yX4_renew : MethodName := ⟨RX4, "renew", "(I)I"⟩
abbrev cX4_renewAll : ByteArray := prog_6_method_7_code
def yX4_renewAll : MethodName := ⟨RX4, "renewAll", "()V"⟩
abbrev cX4_buildUpFrom : ByteArray := prog_6_method_8_code
def yX4_buildUpFrom : MethodName := ⟨RX4, "buildUpFrom", "(I)I"⟩
abbrev cX4_entriesOf : ByteArray := prog_6_method_9_code
def yX4_entriesOf : MethodName := ⟨RX4, "entriesOf", "(I)LBridgedCatalogs$Row;"⟩
abbrev cX4_keysOfAll : ByteArray := prog_6_method_10_code
def yX4_keysOfAll : MethodName := ⟨RX4, "keysOfAll", "()I"⟩
abbrev cX4_entriesOfAll : ByteArray := prog_6_method_11_code
def yX4_entriesOfAll : MethodName := ⟨RX4, "entriesOfAll", "()I"⟩
abbrev cX4_copyFrom : ByteArray := prog_6_method_12_code
def yX4_copyFrom : MethodName := ⟨RX4, "copyFrom", "(LBridgedCatalogs$Tree;)V"⟩
def RX5 : String := "BridgedCatalogs$Walk"
def TX5 : u_T := fun k => match k with
  | 0 => ("BridgedCatalogs$Walk", "path", "LBridgedCatalogs$Row;", true)
  | 1 => ("BridgedCatalogs$Walk", "sides", "LBridgedCatalogs$Row;", true)
  | 2 => ("BridgedCatalogs$Walk", "probes", "I", false)
  | 3 => ("BridgedCatalogs$Walk", "place", "I", false)
  | 4 => ("BridgedCatalogs$Walk", "answer", "I", false)
  | 5 => ("BridgedCatalogs$Walk", "least", "I", false)
  | _ => ("BridgedCatalogs$Walk", "nearest", "I", false)
def tyX5 : Nat → FieldType := fun k => match k with
  | 0 => .object "BridgedCatalogs$Row"
  | 1 => .object "BridgedCatalogs$Row"
  | 2 => .int
  | 3 => .int
  | 4 => .int
  | 5 => .int
  | _ => .int
abbrev wsX50 : List Cond := u_ws RX5 TX5 7
theorem nmX5 : ∀ a, a < 7 → ∀ b, b < 7 → a ≠ b → (TX5 a).2.1 ≠ (TX5 b).2.1 := by decide +kernel
theorem tyX5_ok : ∀ k, k < 7 → parseFieldDescriptor (TX5 k).2.2.1 = some (tyX5 k) := by decide +kernel
abbrev cX5_init : ByteArray := prog_7_method_1_code
def yX5_init : MethodName := ⟨RX5, "<init>", "()V"⟩
abbrev cX5_bridged : ByteArray := prog_7_method_2_code
def yX5_bridged : MethodName := ⟨RX5, "bridged", "(LBridgedCatalogs$Tree;II)V"⟩
abbrev cX5_plain : ByteArray := prog_7_method_3_code
def yX5_plain : MethodName := ⟨RX5, "plain", "(LBridgedCatalogs$Tree;II)V"⟩
abbrev cX5_mostProbes : ByteArray := prog_7_method_4_code
def yX5_mostProbes : MethodName := ⟨RX5, "mostProbes", "(LBridgedCatalogs$Tree;I)I"⟩
abbrev cX5_layPath : ByteArray := prog_7_method_5_code
def yX5_layPath : MethodName := ⟨RX5, "layPath", "(LBridgedCatalogs$Tree;I)V"⟩
abbrev cX5_start : ByteArray := prog_7_method_6_code
def yX5_start : MethodName := ⟨RX5, "start", "()V"⟩
abbrev cX5_searchPath : ByteArray := prog_7_method_7_code
def yX5_searchPath : MethodName := ⟨RX5, "searchPath", "(LBridgedCatalogs$Tree;I)V"⟩
abbrev cX5_halve : ByteArray := prog_7_method_8_code
def yX5_halve : MethodName := ⟨RX5, "halve", "(LBridgedCatalogs$Row;I)I"⟩
abbrev cX5_stepBack : ByteArray := prog_7_method_9_code
def yX5_stepBack : MethodName := ⟨RX5, "stepBack", "(LBridgedCatalogs$Row;II)I"⟩
abbrev cX5_answerAt : ByteArray := prog_7_method_10_code
def yX5_answerAt : MethodName := ⟨RX5, "answerAt", "(LBridgedCatalogs$Tree;III)V"⟩
def RX6 : String := "BridgedCatalogs"
def TX6 : u_T := fun k => match k with
  | 0 => ("BridgedCatalogs", "tree", "LBridgedCatalogs$Tree;", true)
  | 1 => ("BridgedCatalogs", "walk", "LBridgedCatalogs$Walk;", true)
  | _ => ("BridgedCatalogs", "history", "LBridgedCatalogs$History;", true)
def tyX6 : Nat → FieldType := fun k => match k with
  | 0 => .object "BridgedCatalogs$Tree"
  | 1 => .object "BridgedCatalogs$Walk"
  | _ => .object "BridgedCatalogs$History"
abbrev wsX60 : List Cond := u_ws RX6 TX6 3
theorem nmX6 : ∀ a, a < 3 → ∀ b, b < 3 → a ≠ b → (TX6 a).2.1 ≠ (TX6 b).2.1 := by decide +kernel
theorem tyX6_ok : ∀ k, k < 3 → parseFieldDescriptor (TX6 k).2.2.1 = some (tyX6 k) := by decide +kernel
abbrev cX6_init : ByteArray := prog_1_method_1_code
def yX6_init : MethodName := ⟨RX6, "<init>", "()V"⟩
abbrev cX6_addNode : ByteArray := prog_1_method_2_code
def yX6_addNode : MethodName := ⟨RX6, "addNode", "(II)I"⟩
abbrev cX6_add : ByteArray := prog_1_method_3_code
def yX6_add : MethodName := ⟨RX6, "add", "(II)Z"⟩
abbrev cX6_remove : ByteArray := prog_1_method_4_code
def yX6_remove : MethodName := ⟨RX6, "remove", "(II)Z"⟩
abbrev cX6_addSeries : ByteArray := prog_1_method_5_code
def yX6_addSeries : MethodName := ⟨RX6, "addSeries", "(IIII)I"⟩
abbrev cX6_setSizes : ByteArray := prog_1_method_6_code
def yX6_setSizes : MethodName := ⟨RX6, "setSizes", "(II)I"⟩
abbrev cX6_rebuild : ByteArray := prog_1_method_7_code
def yX6_rebuild : MethodName := ⟨RX6, "rebuild", "(I)I"⟩
abbrev cX6_rebuildAll : ByteArray := prog_1_method_8_code
def yX6_rebuildAll : MethodName := ⟨RX6, "rebuildAll", "()I"⟩
abbrev cX6_search : ByteArray := prog_1_method_9_code
def yX6_search : MethodName := ⟨RX6, "search", "(II)I"⟩
abbrev cX6_probes : ByteArray := prog_1_method_10_code
def yX6_probes : MethodName := ⟨RX6, "probes", "(II)I"⟩
abbrev cX6_plainProbes : ByteArray := prog_1_method_11_code
def yX6_plainProbes : MethodName := ⟨RX6, "plainProbes", "(II)I"⟩
abbrev cX6_place : ByteArray := prog_1_method_12_code
def yX6_place : MethodName := ⟨RX6, "place", "(II)I"⟩
abbrev cX6_leastOnPath : ByteArray := prog_1_method_13_code
def yX6_leastOnPath : MethodName := ⟨RX6, "leastOnPath", "(II)I"⟩
abbrev cX6_nearestOnPath : ByteArray := prog_1_method_14_code
def yX6_nearestOnPath : MethodName := ⟨RX6, "nearestOnPath", "(II)I"⟩
abbrev cX6_worst : ByteArray := prog_1_method_15_code
def yX6_worst : MethodName := ⟨RX6, "worst", "(I)I"⟩
abbrev cX6_walkTo : ByteArray := prog_1_method_16_code
def yX6_walkTo : MethodName := ⟨RX6, "walkTo", "(II)LBridgedCatalogs$Walk;"⟩
abbrev cX6_nodes : ByteArray := prog_1_method_17_code
def yX6_nodes : MethodName := ⟨RX6, "nodes", "()I"⟩
abbrev cX6_node : ByteArray := prog_1_method_18_code
def yX6_node : MethodName := ⟨RX6, "node", "(II)I"⟩
abbrev cX6_key : ByteArray := prog_1_method_19_code
def yX6_key : MethodName := ⟨RX6, "key", "(II)I"⟩
abbrev cX6_baseKey : ByteArray := prog_1_method_20_code
def yX6_baseKey : MethodName := ⟨RX6, "baseKey", "(II)I"⟩
abbrev cX6_bufferKey : ByteArray := prog_1_method_21_code
def yX6_bufferKey : MethodName := ⟨RX6, "bufferKey", "(II)I"⟩
abbrev cX6_entry : ByteArray := prog_1_method_22_code
def yX6_entry : MethodName := ⟨RX6, "entry", "(III)I"⟩
abbrev cX6_bridge : ByteArray := prog_1_method_23_code
def yX6_bridge : MethodName := ⟨RX6, "bridge", "(III)I"⟩
abbrev cX6_count : ByteArray := prog_1_method_24_code
def yX6_count : MethodName := ⟨RX6, "count", "(I)I"⟩
abbrev cX6_undo : ByteArray := prog_1_method_25_code
def yX6_undo : MethodName := ⟨RX6, "undo", "()I"⟩
abbrev cX6_digest : ByteArray := prog_1_method_26_code
def yX6_digest : MethodName := ⟨RX6, "digest", "()J"⟩
abbrev cX6_withNode : ByteArray := prog_1_method_27_code
def yX6_withNode : MethodName := ⟨RX6, "withNode", "(JI)J"⟩
abbrev cX6_withEntry : ByteArray := prog_1_method_28_code
def yX6_withEntry : MethodName := ⟨RX6, "withEntry", "(JLBridgedCatalogs$Listing;I)J"⟩
abbrev cX6_requireNode : ByteArray := prog_1_method_29_code
def yX6_requireNode : MethodName := ⟨RX6, "requireNode", "(I)V"⟩
abbrev cX6_requireKey : ByteArray := prog_1_method_30_code
def yX6_requireKey : MethodName := ⟨RX6, "requireKey", "(I)V"⟩
abbrev cX6_requireGoal : ByteArray := prog_1_method_31_code
def yX6_requireGoal : MethodName := ⟨RX6, "requireGoal", "(I)V"⟩
abbrev cX6_require : ByteArray := prog_1_method_32_code
def yX6_require : MethodName := ⟨RX6, "require", "(Z)V"⟩
def RX7 : String := "BridgedCatalogsModel"
def TX7 : u_T := fun k => match k with
  | 0 => ("BridgedCatalogsModel", "s", "[I", true)
  | 1 => ("BridgedCatalogsModel", "past", "[I", true)
  | 2 => ("BridgedCatalogsModel", "aside", "[I", true)
  | 3 => ("BridgedCatalogsModel", "pasts", "I", false)
  | 4 => ("BridgedCatalogsModel", "thrown", "I", false)
  | 5 => ("BridgedCatalogsModel", "sorted", "[I", true)
  | 6 => ("BridgedCatalogsModel", "path", "[I", true)
  | 7 => ("BridgedCatalogsModel", "steps", "I", false)
  | 8 => ("BridgedCatalogsModel", "probes", "I", false)
  | 9 => ("BridgedCatalogsModel", "places", "[I", true)
  | 10 => ("BridgedCatalogsModel", "answers", "[I", true)
  | _ => ("BridgedCatalogsModel", "h", "J", false)
def tyX7 : Nat → FieldType := fun k => match k with
  | 0 => .array .int
  | 1 => .array .int
  | 2 => .array .int
  | 3 => .int
  | 4 => .int
  | 5 => .array .int
  | 6 => .array .int
  | 7 => .int
  | 8 => .int
  | 9 => .array .int
  | 10 => .array .int
  | _ => .long
abbrev wsX70 : List Cond := u_ws RX7 TX7 12
theorem nmX7 : ∀ a, a < 12 → ∀ b, b < 12 → a ≠ b → (TX7 a).2.1 ≠ (TX7 b).2.1 := by decide +kernel
theorem tyX7_ok : ∀ k, k < 12 → parseFieldDescriptor (TX7 k).2.2.1 = some (tyX7 k) := by decide +kernel
abbrev cX7_init : ByteArray := prog_9_method_1_code
def yX7_init : MethodName := ⟨RX7, "<init>", "()V"⟩
abbrev cX7_thrown : ByteArray := prog_9_method_2_code
def yX7_thrown : MethodName := ⟨RX7, "thrown", "()I"⟩
abbrev cX7_in : ByteArray := prog_9_method_3_code
def yX7_in : MethodName := ⟨RX7, "in", "(III)Z"⟩
abbrev cX7_fails : ByteArray := prog_9_method_4_code
def yX7_fails : MethodName := ⟨RX7, "fails", "(I)I"⟩
abbrev cX7_tells : ByteArray := prog_9_method_5_code
def yX7_tells : MethodName := ⟨RX7, "tells", "(I)I"⟩
abbrev cX7_hold : ByteArray := prog_9_method_6_code
def yX7_hold : MethodName := ⟨RX7, "hold", "()V"⟩
abbrev cX7_ends : ByteArray := prog_9_method_7_code
def yX7_ends : MethodName := ⟨RX7, "ends", "(I)I"⟩
abbrev cX7_of : ByteArray := prog_9_method_8_code
def yX7_of : MethodName := ⟨RX7, "of", "(II)I"⟩
abbrev cX7_puts : ByteArray := prog_9_method_9_code
def yX7_puts : MethodName := ⟨RX7, "puts", "(III)V"⟩
abbrev cX7_isNode : ByteArray := prog_9_method_10_code
def yX7_isNode : MethodName := ⟨RX7, "isNode", "(I)Z"⟩
abbrev cX7_isKey : ByteArray := prog_9_method_11_code
def yX7_isKey : MethodName := ⟨RX7, "isKey", "(I)Z"⟩
abbrev cX7_isSought : ByteArray := prog_9_method_12_code
def yX7_isSought : MethodName := ⟨RX7, "isSought", "(I)Z"⟩
abbrev cX7_marked : ByteArray := prog_9_method_13_code
def yX7_marked : MethodName := ⟨RX7, "marked", "(I)I"⟩
abbrev cX7_keys : ByteArray := prog_9_method_14_code
def yX7_keys : MethodName := ⟨RX7, "keys", "(I)I"⟩
abbrev cX7_inBase : ByteArray := prog_9_method_15_code
def yX7_inBase : MethodName := ⟨RX7, "inBase", "(II)I"⟩
abbrev cX7_inBuffer : ByteArray := prog_9_method_16_code
def yX7_inBuffer : MethodName := ⟨RX7, "inBuffer", "(II)I"⟩
abbrev cX7_has : ByteArray := prog_9_method_17_code
def yX7_has : MethodName := ⟨RX7, "has", "(II)Z"⟩
abbrev cX7_next : ByteArray := prog_9_method_18_code
def yX7_next : MethodName := ⟨RX7, "next", "(II)I"⟩
abbrev cX7_enters : ByteArray := prog_9_method_19_code
def yX7_enters : MethodName := ⟨RX7, "enters", "(III)V"⟩
abbrev cX7_less : ByteArray := prog_9_method_20_code
def yX7_less : MethodName := ⟨RX7, "less", "(III)I"⟩
abbrev cX7_builds : ByteArray := prog_9_method_21_code
def yX7_builds : MethodName := ⟨RX7, "builds", "(I)V"⟩
abbrev cX7_buildsUp : ByteArray := prog_9_method_22_code
def yX7_buildsUp : MethodName := ⟨RX7, "buildsUp", "(I)I"⟩
abbrev cX7_rebuilds : ByteArray := prog_9_method_23_code
def yX7_rebuilds : MethodName := ⟨RX7, "rebuilds", "(I)I"⟩
abbrev cX7_addNode : ByteArray := prog_9_method_24_code
def yX7_addNode : MethodName := ⟨RX7, "addNode", "(II)I"⟩
abbrev cX7_comes : ByteArray := prog_9_method_25_code
def yX7_comes : MethodName := ⟨RX7, "comes", "(II)V"⟩
abbrev cX7_add : ByteArray := prog_9_method_26_code
def yX7_add : MethodName := ⟨RX7, "add", "(II)Z"⟩
abbrev cX7_goes : ByteArray := prog_9_method_27_code
def yX7_goes : MethodName := ⟨RX7, "goes", "(II)V"⟩
abbrev cX7_remove : ByteArray := prog_9_method_28_code
def yX7_remove : MethodName := ⟨RX7, "remove", "(II)Z"⟩
abbrev cX7_addSeries : ByteArray := prog_9_method_29_code
def yX7_addSeries : MethodName := ⟨RX7, "addSeries", "(IIII)I"⟩
abbrev cX7_setSizes : ByteArray := prog_9_method_30_code
def yX7_setSizes : MethodName := ⟨RX7, "setSizes", "(II)I"⟩
abbrev cX7_rebuild : ByteArray := prog_9_method_31_code
def yX7_rebuild : MethodName := ⟨RX7, "rebuild", "(I)I"⟩
abbrev cX7_entriesOfAll : ByteArray := prog_9_method_32_code
def yX7_entriesOfAll : MethodName := ⟨RX7, "entriesOfAll", "()I"⟩
abbrev cX7_rebuildAll : ByteArray := prog_9_method_33_code
def yX7_rebuildAll : MethodName := ⟨RX7, "rebuildAll", "()I"⟩
abbrev cX7_lays : ByteArray := prog_9_method_34_code
def yX7_lays : MethodName := ⟨RX7, "lays", "(I)V"⟩
abbrev cX7_halves : ByteArray := prog_9_method_35_code
def yX7_halves : MethodName := ⟨RX7, "halves", "(IIII)I"⟩
abbrev cX7_answerFrom : ByteArray := prog_9_method_36_code
def yX7_answerFrom : MethodName := ⟨RX7, "answerFrom", "(III)I"⟩
abbrev cX7_seeks : ByteArray := prog_9_method_37_code
def yX7_seeks : MethodName := ⟨RX7, "seeks", "(I)V"⟩
abbrev cX7_goesBack : ByteArray := prog_9_method_38_code
def yX7_goesBack : MethodName := ⟨RX7, "goesBack", "(III)I"⟩
abbrev cX7_search : ByteArray := prog_9_method_39_code
def yX7_search : MethodName := ⟨RX7, "search", "(II)I"⟩
abbrev cX7_asks : ByteArray := prog_9_method_40_code
def yX7_asks : MethodName := ⟨RX7, "asks", "(II)I"⟩
abbrev cX7_probes : ByteArray := prog_9_method_41_code
def yX7_probes : MethodName := ⟨RX7, "probes", "(II)I"⟩
abbrev cX7_plainProbes : ByteArray := prog_9_method_42_code
def yX7_plainProbes : MethodName := ⟨RX7, "plainProbes", "(II)I"⟩
abbrev cX7_place : ByteArray := prog_9_method_43_code
def yX7_place : MethodName := ⟨RX7, "place", "(II)I"⟩
abbrev cX7_leastStep : ByteArray := prog_9_method_44_code
def yX7_leastStep : MethodName := ⟨RX7, "leastStep", "()I"⟩
abbrev cX7_leastOnPath : ByteArray := prog_9_method_45_code
def yX7_leastOnPath : MethodName := ⟨RX7, "leastOnPath", "(II)I"⟩
abbrev cX7_nearestOnPath : ByteArray := prog_9_method_46_code
def yX7_nearestOnPath : MethodName := ⟨RX7, "nearestOnPath", "(II)I"⟩
abbrev cX7_worstOf : ByteArray := prog_9_method_47_code
def yX7_worstOf : MethodName := ⟨RX7, "worstOf", "(I)I"⟩
abbrev cX7_worst : ByteArray := prog_9_method_48_code
def yX7_worst : MethodName := ⟨RX7, "worst", "(I)I"⟩
abbrev cX7_nodes : ByteArray := prog_9_method_49_code
def yX7_nodes : MethodName := ⟨RX7, "nodes", "()I"⟩
abbrev cX7_depth : ByteArray := prog_9_method_50_code
def yX7_depth : MethodName := ⟨RX7, "depth", "(I)I"⟩
abbrev cX7_value : ByteArray := prog_9_method_51_code
def yX7_value : MethodName := ⟨RX7, "value", "(II)I"⟩
abbrev cX7_node : ByteArray := prog_9_method_52_code
def yX7_node : MethodName := ⟨RX7, "node", "(II)I"⟩
abbrev cX7_key : ByteArray := prog_9_method_53_code
def yX7_key : MethodName := ⟨RX7, "key", "(II)I"⟩
abbrev cX7_baseOf : ByteArray := prog_9_method_54_code
def yX7_baseOf : MethodName := ⟨RX7, "baseOf", "(II)I"⟩
abbrev cX7_baseKey : ByteArray := prog_9_method_55_code
def yX7_baseKey : MethodName := ⟨RX7, "baseKey", "(II)I"⟩
abbrev cX7_bufferKey : ByteArray := prog_9_method_56_code
def yX7_bufferKey : MethodName := ⟨RX7, "bufferKey", "(II)I"⟩
abbrev cX7_entry : ByteArray := prog_9_method_57_code
def yX7_entry : MethodName := ⟨RX7, "entry", "(III)I"⟩
abbrev cX7_bridge : ByteArray := prog_9_method_58_code
def yX7_bridge : MethodName := ⟨RX7, "bridge", "(III)I"⟩
abbrev cX7_counted : ByteArray := prog_9_method_59_code
def yX7_counted : MethodName := ⟨RX7, "counted", "(I)I"⟩
abbrev cX7_count : ByteArray := prog_9_method_60_code
def yX7_count : MethodName := ⟨RX7, "count", "(I)I"⟩
abbrev cX7_undo : ByteArray := prog_9_method_61_code
def yX7_undo : MethodName := ⟨RX7, "undo", "()I"⟩
abbrev cX7_mix : ByteArray := prog_9_method_62_code
def yX7_mix : MethodName := ⟨RX7, "mix", "(I)V"⟩
abbrev cX7_mixNode : ByteArray := prog_9_method_63_code
def yX7_mixNode : MethodName := ⟨RX7, "mixNode", "(I)V"⟩
abbrev cX7_digest : ByteArray := prog_9_method_64_code
def yX7_digest : MethodName := ⟨RX7, "digest", "()J"⟩
def RL : String := "BridgedCatalogsLaw"
abbrev cL_addNode : ByteArray := method_3_code
def yL_addNode : MethodName := ⟨RL, "addNode", "(LBridgedCatalogs;II[J)I"⟩
abbrev cL_add : ByteArray := method_4_code
def yL_add : MethodName := ⟨RL, "add", "(LBridgedCatalogs;II[J)I"⟩
abbrev cL_remove : ByteArray := method_5_code
def yL_remove : MethodName := ⟨RL, "remove", "(LBridgedCatalogs;II[J)I"⟩
abbrev cL_addSeries : ByteArray := method_6_code
def yL_addSeries : MethodName := ⟨RL, "addSeries", "(LBridgedCatalogs;IIII[J)I"⟩
abbrev cL_setSizes : ByteArray := method_7_code
def yL_setSizes : MethodName := ⟨RL, "setSizes", "(LBridgedCatalogs;II[J)I"⟩
abbrev cL_rebuild : ByteArray := method_8_code
def yL_rebuild : MethodName := ⟨RL, "rebuild", "(LBridgedCatalogs;I[J)I"⟩
abbrev cL_search : ByteArray := method_9_code
def yL_search : MethodName := ⟨RL, "search", "(LBridgedCatalogs;II[J)I"⟩
abbrev cL_probes : ByteArray := method_10_code
def yL_probes : MethodName := ⟨RL, "probes", "(LBridgedCatalogs;II[J)I"⟩
abbrev cL_plainProbes : ByteArray := method_11_code
def yL_plainProbes : MethodName := ⟨RL, "plainProbes", "(LBridgedCatalogs;II[J)I"⟩
abbrev cL_place : ByteArray := method_12_code
def yL_place : MethodName := ⟨RL, "place", "(LBridgedCatalogs;II[J)I"⟩
abbrev cL_leastOnPath : ByteArray := method_13_code
def yL_leastOnPath : MethodName := ⟨RL, "leastOnPath", "(LBridgedCatalogs;II[J)I"⟩
abbrev cL_nearestOnPath : ByteArray := method_14_code
def yL_nearestOnPath : MethodName := ⟨RL, "nearestOnPath", "(LBridgedCatalogs;II[J)I"⟩
abbrev cL_worst : ByteArray := method_15_code
def yL_worst : MethodName := ⟨RL, "worst", "(LBridgedCatalogs;I[J)I"⟩
abbrev cL_node : ByteArray := method_16_code
def yL_node : MethodName := ⟨RL, "node", "(LBridgedCatalogs;II[J)I"⟩
abbrev cL_key : ByteArray := method_17_code
def yL_key : MethodName := ⟨RL, "key", "(LBridgedCatalogs;II[J)I"⟩
abbrev cL_baseKey : ByteArray := method_18_code
def yL_baseKey : MethodName := ⟨RL, "baseKey", "(LBridgedCatalogs;II[J)I"⟩
abbrev cL_bufferKey : ByteArray := method_19_code
def yL_bufferKey : MethodName := ⟨RL, "bufferKey", "(LBridgedCatalogs;II[J)I"⟩
abbrev cL_entry : ByteArray := method_20_code
def yL_entry : MethodName := ⟨RL, "entry", "(LBridgedCatalogs;III[J)I"⟩
abbrev cL_bridge : ByteArray := method_21_code
def yL_bridge : MethodName := ⟨RL, "bridge", "(LBridgedCatalogs;III[J)I"⟩
abbrev cL_count : ByteArray := method_22_code
def yL_count : MethodName := ⟨RL, "count", "(LBridgedCatalogs;I[J)I"⟩
abbrev cL_undo : ByteArray := method_23_code
def yL_undo : MethodName := ⟨RL, "undo", "(LBridgedCatalogs;[J)I"⟩
abbrev cL_law : ByteArray := code
def yL_law : MethodName := ⟨RL, "law", "([I)Z"⟩
abbrev vwCl : List vw_C := [(RX0, TX0, 9), (RX1, TX1, 3), (RX2, TX2, 5), (RX3, TX3, 2), (RX4, TX4, 11), (RX5, TX5, 7), (RX6, TX6, 3), (RX7, TX7, 12)]
end
section
theorem dL_addNode_0 : decode cL_addNode 0 = .ok (.aload_n 3, 1) := by decide +kernel
theorem dL_addNode_1 : decode cL_addNode 1 = .ok (.iconst 0, 1) := by decide +kernel
theorem dL_addNode_2 : decode cL_addNode 2 = .ok (.aload_n 0, 1) := by decide +kernel
theorem dL_addNode_3 : decode cL_addNode 3 = .ok (.iload_n 1, 1) := by decide +kernel
theorem dL_addNode_4 : decode cL_addNode 4 = .ok (.iload_n 2, 1) := by decide +kernel
theorem dL_addNode_5 : decode cL_addNode 5 = .ok (.invokevirtual 7, 3) := by decide +kernel
theorem dL_addNode_8 : decode cL_addNode 8 = .ok (.i2l, 1) := by decide +kernel
theorem dL_addNode_9 : decode cL_addNode 9 = .ok (.lastore, 1) := by decide +kernel
theorem dL_addNode_10 : decode cL_addNode 10 = .ok (.goto 15, 3) := by decide +kernel
theorem dL_addNode_13 : decode cL_addNode 13 = .ok (.astore 4, 2) := by decide +kernel
theorem dL_addNode_15 : decode cL_addNode 15 = .ok (.iconst 1, 1) := by decide +kernel
theorem dL_addNode_16 : decode cL_addNode 16 = .ok (.ireturn, 1) := by decide +kernel
theorem dL_addNode_17 : decode cL_addNode 17 = .ok (.astore 4, 2) := by decide +kernel
theorem dL_addNode_19 : decode cL_addNode 19 = .ok (.iconst 2, 1) := by decide +kernel
theorem dL_addNode_20 : decode cL_addNode 20 = .ok (.ireturn, 1) := by decide +kernel
theorem dL_addNode_21 : decode cL_addNode 21 = .ok (.astore 4, 2) := by decide +kernel
theorem dL_addNode_23 : decode cL_addNode 23 = .ok (.iconst 3, 1) := by decide +kernel
theorem dL_addNode_24 : decode cL_addNode 24 = .ok (.ireturn, 1) := by decide +kernel
theorem dL_addNode_25 : decode cL_addNode 25 = .ok (.iconst 0, 1) := by decide +kernel
theorem dL_addNode_26 : decode cL_addNode 26 = .ok (.ireturn, 1) := by decide +kernel
theorem dL_add_0 : decode cL_add 0 = .ok (.aload_n 3, 1) := by decide +kernel
theorem dL_add_1 : decode cL_add 1 = .ok (.iconst 0, 1) := by decide +kernel
theorem dL_add_2 : decode cL_add 2 = .ok (.aload_n 0, 1) := by decide +kernel
theorem dL_add_3 : decode cL_add 3 = .ok (.iload_n 1, 1) := by decide +kernel
theorem dL_add_4 : decode cL_add 4 = .ok (.iload_n 2, 1) := by decide +kernel
theorem dL_add_5 : decode cL_add 5 = .ok (.invokevirtual 19, 3) := by decide +kernel
theorem dL_add_8 : decode cL_add 8 = .ok (.ifCond .eq 7, 3) := by decide +kernel
theorem dL_add_11 : decode cL_add 11 = .ok (.lconst 1, 1) := by decide +kernel
theorem dL_add_12 : decode cL_add 12 = .ok (.goto 4, 3) := by decide +kernel
theorem dL_add_15 : decode cL_add 15 = .ok (.lconst 0, 1) := by decide +kernel
theorem dL_add_16 : decode cL_add 16 = .ok (.lastore, 1) := by decide +kernel
theorem dL_add_17 : decode cL_add 17 = .ok (.goto 15, 3) := by decide +kernel
theorem dL_add_20 : decode cL_add 20 = .ok (.astore 4, 2) := by decide +kernel
theorem dL_add_22 : decode cL_add 22 = .ok (.iconst 1, 1) := by decide +kernel
theorem dL_add_23 : decode cL_add 23 = .ok (.ireturn, 1) := by decide +kernel
theorem dL_add_24 : decode cL_add 24 = .ok (.astore 4, 2) := by decide +kernel
theorem dL_add_26 : decode cL_add 26 = .ok (.iconst 2, 1) := by decide +kernel
theorem dL_add_27 : decode cL_add 27 = .ok (.ireturn, 1) := by decide +kernel
theorem dL_add_28 : decode cL_add 28 = .ok (.astore 4, 2) := by decide +kernel
theorem dL_add_30 : decode cL_add 30 = .ok (.iconst 3, 1) := by decide +kernel
theorem dL_add_31 : decode cL_add 31 = .ok (.ireturn, 1) := by decide +kernel
theorem dL_add_32 : decode cL_add 32 = .ok (.iconst 0, 1) := by decide +kernel
theorem dL_add_33 : decode cL_add 33 = .ok (.ireturn, 1) := by decide +kernel
theorem dL_remove_0 : decode cL_remove 0 = .ok (.aload_n 3, 1) := by decide +kernel
theorem dL_remove_1 : decode cL_remove 1 = .ok (.iconst 0, 1) := by decide +kernel
theorem dL_remove_2 : decode cL_remove 2 = .ok (.aload_n 0, 1) := by decide +kernel
theorem dL_remove_3 : decode cL_remove 3 = .ok (.iload_n 1, 1) := by decide +kernel
theorem dL_remove_4 : decode cL_remove 4 = .ok (.iload_n 2, 1) := by decide +kernel
theorem dL_remove_5 : decode cL_remove 5 = .ok (.invokevirtual 23, 3) := by decide +kernel
theorem dL_remove_8 : decode cL_remove 8 = .ok (.ifCond .eq 7, 3) := by decide +kernel
theorem dL_remove_11 : decode cL_remove 11 = .ok (.lconst 1, 1) := by decide +kernel
theorem dL_remove_12 : decode cL_remove 12 = .ok (.goto 4, 3) := by decide +kernel
theorem dL_remove_15 : decode cL_remove 15 = .ok (.lconst 0, 1) := by decide +kernel
theorem dL_remove_16 : decode cL_remove 16 = .ok (.lastore, 1) := by decide +kernel
theorem dL_remove_17 : decode cL_remove 17 = .ok (.goto 11, 3) := by decide +kernel
theorem dL_remove_20 : decode cL_remove 20 = .ok (.astore 4, 2) := by decide +kernel
theorem dL_remove_22 : decode cL_remove 22 = .ok (.iconst 1, 1) := by decide +kernel
theorem dL_remove_23 : decode cL_remove 23 = .ok (.ireturn, 1) := by decide +kernel
theorem dL_remove_24 : decode cL_remove 24 = .ok (.astore 4, 2) := by decide +kernel
theorem dL_remove_26 : decode cL_remove 26 = .ok (.iconst 2, 1) := by decide +kernel
theorem dL_remove_27 : decode cL_remove 27 = .ok (.ireturn, 1) := by decide +kernel
theorem dL_remove_28 : decode cL_remove 28 = .ok (.iconst 0, 1) := by decide +kernel
theorem dL_remove_29 : decode cL_remove 29 = .ok (.ireturn, 1) := by decide +kernel
theorem dL_addSeries_0 : decode cL_addSeries 0 = .ok (.aload 5, 2) := by decide +kernel
theorem dL_addSeries_2 : decode cL_addSeries 2 = .ok (.iconst 0, 1) := by decide +kernel
theorem dL_addSeries_3 : decode cL_addSeries 3 = .ok (.aload_n 0, 1) := by decide +kernel
theorem dL_addSeries_4 : decode cL_addSeries 4 = .ok (.iload_n 1, 1) := by decide +kernel
theorem dL_addSeries_5 : decode cL_addSeries 5 = .ok (.iload_n 2, 1) := by decide +kernel
theorem dL_addSeries_6 : decode cL_addSeries 6 = .ok (.iload_n 3, 1) := by decide +kernel
theorem dL_addSeries_7 : decode cL_addSeries 7 = .ok (.iload 4, 2) := by decide +kernel
theorem dL_addSeries_9 : decode cL_addSeries 9 = .ok (.invokevirtual 26, 3) := by decide +kernel
theorem dL_addSeries_12 : decode cL_addSeries 12 = .ok (.i2l, 1) := by decide +kernel
theorem dL_addSeries_13 : decode cL_addSeries 13 = .ok (.lastore, 1) := by decide +kernel
theorem dL_addSeries_14 : decode cL_addSeries 14 = .ok (.goto 11, 3) := by decide +kernel
theorem dL_addSeries_17 : decode cL_addSeries 17 = .ok (.astore 6, 2) := by decide +kernel
theorem dL_addSeries_19 : decode cL_addSeries 19 = .ok (.iconst 1, 1) := by decide +kernel
theorem dL_addSeries_20 : decode cL_addSeries 20 = .ok (.ireturn, 1) := by decide +kernel
theorem dL_addSeries_21 : decode cL_addSeries 21 = .ok (.astore 6, 2) := by decide +kernel
theorem dL_addSeries_23 : decode cL_addSeries 23 = .ok (.iconst 2, 1) := by decide +kernel
theorem dL_addSeries_24 : decode cL_addSeries 24 = .ok (.ireturn, 1) := by decide +kernel
theorem dL_addSeries_25 : decode cL_addSeries 25 = .ok (.iconst 0, 1) := by decide +kernel
theorem dL_addSeries_26 : decode cL_addSeries 26 = .ok (.ireturn, 1) := by decide +kernel
theorem dL_setSizes_0 : decode cL_setSizes 0 = .ok (.aload_n 3, 1) := by decide +kernel
theorem dL_setSizes_1 : decode cL_setSizes 1 = .ok (.iconst 0, 1) := by decide +kernel
theorem dL_setSizes_2 : decode cL_setSizes 2 = .ok (.aload_n 0, 1) := by decide +kernel
theorem dL_setSizes_3 : decode cL_setSizes 3 = .ok (.iload_n 1, 1) := by decide +kernel
theorem dL_setSizes_4 : decode cL_setSizes 4 = .ok (.iload_n 2, 1) := by decide +kernel
theorem dL_setSizes_5 : decode cL_setSizes 5 = .ok (.invokevirtual 30, 3) := by decide +kernel
theorem dL_setSizes_8 : decode cL_setSizes 8 = .ok (.i2l, 1) := by decide +kernel
theorem dL_setSizes_9 : decode cL_setSizes 9 = .ok (.lastore, 1) := by decide +kernel
theorem dL_setSizes_10 : decode cL_setSizes 10 = .ok (.goto 7, 3) := by decide +kernel
theorem dL_setSizes_13 : decode cL_setSizes 13 = .ok (.astore 4, 2) := by decide +kernel
theorem dL_setSizes_15 : decode cL_setSizes 15 = .ok (.iconst 1, 1) := by decide +kernel
theorem dL_setSizes_16 : decode cL_setSizes 16 = .ok (.ireturn, 1) := by decide +kernel
theorem dL_setSizes_17 : decode cL_setSizes 17 = .ok (.iconst 0, 1) := by decide +kernel
theorem dL_setSizes_18 : decode cL_setSizes 18 = .ok (.ireturn, 1) := by decide +kernel
theorem dL_rebuild_0 : decode cL_rebuild 0 = .ok (.aload_n 2, 1) := by decide +kernel
theorem dL_rebuild_1 : decode cL_rebuild 1 = .ok (.iconst 0, 1) := by decide +kernel
theorem dL_rebuild_2 : decode cL_rebuild 2 = .ok (.aload_n 0, 1) := by decide +kernel
theorem dL_rebuild_3 : decode cL_rebuild 3 = .ok (.iload_n 1, 1) := by decide +kernel
theorem dL_rebuild_4 : decode cL_rebuild 4 = .ok (.invokevirtual 33, 3) := by decide +kernel
theorem dL_rebuild_7 : decode cL_rebuild 7 = .ok (.i2l, 1) := by decide +kernel
theorem dL_rebuild_8 : decode cL_rebuild 8 = .ok (.lastore, 1) := by decide +kernel
theorem dL_rebuild_9 : decode cL_rebuild 9 = .ok (.goto 6, 3) := by decide +kernel
theorem dL_rebuild_12 : decode cL_rebuild 12 = .ok (.astore_n 3, 1) := by decide +kernel
theorem dL_rebuild_13 : decode cL_rebuild 13 = .ok (.iconst 1, 1) := by decide +kernel
theorem dL_rebuild_14 : decode cL_rebuild 14 = .ok (.ireturn, 1) := by decide +kernel
theorem dL_rebuild_15 : decode cL_rebuild 15 = .ok (.iconst 0, 1) := by decide +kernel
theorem dL_rebuild_16 : decode cL_rebuild 16 = .ok (.ireturn, 1) := by decide +kernel
theorem dL_search_0 : decode cL_search 0 = .ok (.aload_n 3, 1) := by decide +kernel
theorem dL_search_1 : decode cL_search 1 = .ok (.iconst 0, 1) := by decide +kernel
theorem dL_search_2 : decode cL_search 2 = .ok (.aload_n 0, 1) := by decide +kernel
theorem dL_search_3 : decode cL_search 3 = .ok (.iload_n 1, 1) := by decide +kernel
theorem dL_search_4 : decode cL_search 4 = .ok (.iload_n 2, 1) := by decide +kernel
theorem dL_search_5 : decode cL_search 5 = .ok (.invokevirtual 37, 3) := by decide +kernel
theorem dL_search_8 : decode cL_search 8 = .ok (.i2l, 1) := by decide +kernel
theorem dL_search_9 : decode cL_search 9 = .ok (.lastore, 1) := by decide +kernel
theorem dL_search_10 : decode cL_search 10 = .ok (.goto 11, 3) := by decide +kernel
theorem dL_search_13 : decode cL_search 13 = .ok (.astore 4, 2) := by decide +kernel
theorem dL_search_15 : decode cL_search 15 = .ok (.iconst 1, 1) := by decide +kernel
theorem dL_search_16 : decode cL_search 16 = .ok (.ireturn, 1) := by decide +kernel
theorem dL_search_17 : decode cL_search 17 = .ok (.astore 4, 2) := by decide +kernel
theorem dL_search_19 : decode cL_search 19 = .ok (.iconst 2, 1) := by decide +kernel
theorem dL_search_20 : decode cL_search 20 = .ok (.ireturn, 1) := by decide +kernel
theorem dL_search_21 : decode cL_search 21 = .ok (.iconst 0, 1) := by decide +kernel
theorem dL_search_22 : decode cL_search 22 = .ok (.ireturn, 1) := by decide +kernel
theorem dL_probes_0 : decode cL_probes 0 = .ok (.aload_n 3, 1) := by decide +kernel
theorem dL_probes_1 : decode cL_probes 1 = .ok (.iconst 0, 1) := by decide +kernel
theorem dL_probes_2 : decode cL_probes 2 = .ok (.aload_n 0, 1) := by decide +kernel
theorem dL_probes_3 : decode cL_probes 3 = .ok (.iload_n 1, 1) := by decide +kernel
theorem dL_probes_4 : decode cL_probes 4 = .ok (.iload_n 2, 1) := by decide +kernel
theorem dL_probes_5 : decode cL_probes 5 = .ok (.invokevirtual 40, 3) := by decide +kernel
theorem dL_probes_8 : decode cL_probes 8 = .ok (.i2l, 1) := by decide +kernel
theorem dL_probes_9 : decode cL_probes 9 = .ok (.lastore, 1) := by decide +kernel
theorem dL_probes_10 : decode cL_probes 10 = .ok (.goto 11, 3) := by decide +kernel
theorem dL_probes_13 : decode cL_probes 13 = .ok (.astore 4, 2) := by decide +kernel
theorem dL_probes_15 : decode cL_probes 15 = .ok (.iconst 1, 1) := by decide +kernel
theorem dL_probes_16 : decode cL_probes 16 = .ok (.ireturn, 1) := by decide +kernel
theorem dL_probes_17 : decode cL_probes 17 = .ok (.astore 4, 2) := by decide +kernel
theorem dL_probes_19 : decode cL_probes 19 = .ok (.iconst 2, 1) := by decide +kernel
theorem dL_probes_20 : decode cL_probes 20 = .ok (.ireturn, 1) := by decide +kernel
theorem dL_probes_21 : decode cL_probes 21 = .ok (.iconst 0, 1) := by decide +kernel
theorem dL_probes_22 : decode cL_probes 22 = .ok (.ireturn, 1) := by decide +kernel
theorem dL_plainProbes_0 : decode cL_plainProbes 0 = .ok (.aload_n 3, 1) := by decide +kernel
theorem dL_plainProbes_1 : decode cL_plainProbes 1 = .ok (.iconst 0, 1) := by decide +kernel
theorem dL_plainProbes_2 : decode cL_plainProbes 2 = .ok (.aload_n 0, 1) := by decide +kernel
theorem dL_plainProbes_3 : decode cL_plainProbes 3 = .ok (.iload_n 1, 1) := by decide +kernel
theorem dL_plainProbes_4 : decode cL_plainProbes 4 = .ok (.iload_n 2, 1) := by decide +kernel
theorem dL_plainProbes_5 : decode cL_plainProbes 5 = .ok (.invokevirtual 43, 3) := by decide +kernel
theorem dL_plainProbes_8 : decode cL_plainProbes 8 = .ok (.i2l, 1) := by decide +kernel
theorem dL_plainProbes_9 : decode cL_plainProbes 9 = .ok (.lastore, 1) := by decide +kernel
theorem dL_plainProbes_10 : decode cL_plainProbes 10 = .ok (.goto 11, 3) := by decide +kernel
theorem dL_plainProbes_13 : decode cL_plainProbes 13 = .ok (.astore 4, 2) := by decide +kernel
theorem dL_plainProbes_15 : decode cL_plainProbes 15 = .ok (.iconst 1, 1) := by decide +kernel
theorem dL_plainProbes_16 : decode cL_plainProbes 16 = .ok (.ireturn, 1) := by decide +kernel
theorem dL_plainProbes_17 : decode cL_plainProbes 17 = .ok (.astore 4, 2) := by decide +kernel
theorem dL_plainProbes_19 : decode cL_plainProbes 19 = .ok (.iconst 2, 1) := by decide +kernel
theorem dL_plainProbes_20 : decode cL_plainProbes 20 = .ok (.ireturn, 1) := by decide +kernel
theorem dL_plainProbes_21 : decode cL_plainProbes 21 = .ok (.iconst 0, 1) := by decide +kernel
theorem dL_plainProbes_22 : decode cL_plainProbes 22 = .ok (.ireturn, 1) := by decide +kernel
theorem dL_place_0 : decode cL_place 0 = .ok (.aload_n 3, 1) := by decide +kernel
theorem dL_place_1 : decode cL_place 1 = .ok (.iconst 0, 1) := by decide +kernel
theorem dL_place_2 : decode cL_place 2 = .ok (.aload_n 0, 1) := by decide +kernel
theorem dL_place_3 : decode cL_place 3 = .ok (.iload_n 1, 1) := by decide +kernel
theorem dL_place_4 : decode cL_place 4 = .ok (.iload_n 2, 1) := by decide +kernel
theorem dL_place_5 : decode cL_place 5 = .ok (.invokevirtual 46, 3) := by decide +kernel
theorem dL_place_8 : decode cL_place 8 = .ok (.i2l, 1) := by decide +kernel
theorem dL_place_9 : decode cL_place 9 = .ok (.lastore, 1) := by decide +kernel
theorem dL_place_10 : decode cL_place 10 = .ok (.goto 11, 3) := by decide +kernel
theorem dL_place_13 : decode cL_place 13 = .ok (.astore 4, 2) := by decide +kernel
theorem dL_place_15 : decode cL_place 15 = .ok (.iconst 1, 1) := by decide +kernel
theorem dL_place_16 : decode cL_place 16 = .ok (.ireturn, 1) := by decide +kernel
theorem dL_place_17 : decode cL_place 17 = .ok (.astore 4, 2) := by decide +kernel
theorem dL_place_19 : decode cL_place 19 = .ok (.iconst 2, 1) := by decide +kernel
theorem dL_place_20 : decode cL_place 20 = .ok (.ireturn, 1) := by decide +kernel
theorem dL_place_21 : decode cL_place 21 = .ok (.iconst 0, 1) := by decide +kernel
theorem dL_place_22 : decode cL_place 22 = .ok (.ireturn, 1) := by decide +kernel
theorem dL_leastOnPath_0 : decode cL_leastOnPath 0 = .ok (.aload_n 3, 1) := by decide +kernel
theorem dL_leastOnPath_1 : decode cL_leastOnPath 1 = .ok (.iconst 0, 1) := by decide +kernel
theorem dL_leastOnPath_2 : decode cL_leastOnPath 2 = .ok (.aload_n 0, 1) := by decide +kernel
theorem dL_leastOnPath_3 : decode cL_leastOnPath 3 = .ok (.iload_n 1, 1) := by decide +kernel
theorem dL_leastOnPath_4 : decode cL_leastOnPath 4 = .ok (.iload_n 2, 1) := by decide +kernel
theorem dL_leastOnPath_5 : decode cL_leastOnPath 5 = .ok (.invokevirtual 49, 3) := by decide +kernel
theorem dL_leastOnPath_8 : decode cL_leastOnPath 8 = .ok (.i2l, 1) := by decide +kernel
theorem dL_leastOnPath_9 : decode cL_leastOnPath 9 = .ok (.lastore, 1) := by decide +kernel
theorem dL_leastOnPath_10 : decode cL_leastOnPath 10 = .ok (.goto 11, 3) := by decide +kernel
theorem dL_leastOnPath_13 : decode cL_leastOnPath 13 = .ok (.astore 4, 2) := by decide +kernel
theorem dL_leastOnPath_15 : decode cL_leastOnPath 15 = .ok (.iconst 1, 1) := by decide +kernel
theorem dL_leastOnPath_16 : decode cL_leastOnPath 16 = .ok (.ireturn, 1) := by decide +kernel
theorem dL_leastOnPath_17 : decode cL_leastOnPath 17 = .ok (.astore 4, 2) := by decide +kernel
theorem dL_leastOnPath_19 : decode cL_leastOnPath 19 = .ok (.iconst 2, 1) := by decide +kernel
theorem dL_leastOnPath_20 : decode cL_leastOnPath 20 = .ok (.ireturn, 1) := by decide +kernel
theorem dL_leastOnPath_21 : decode cL_leastOnPath 21 = .ok (.iconst 0, 1) := by decide +kernel
theorem dL_leastOnPath_22 : decode cL_leastOnPath 22 = .ok (.ireturn, 1) := by decide +kernel
theorem dL_nearestOnPath_0 : decode cL_nearestOnPath 0 = .ok (.aload_n 3, 1) := by decide +kernel
theorem dL_nearestOnPath_1 : decode cL_nearestOnPath 1 = .ok (.iconst 0, 1) := by decide +kernel
theorem dL_nearestOnPath_2 : decode cL_nearestOnPath 2 = .ok (.aload_n 0, 1) := by decide +kernel
theorem dL_nearestOnPath_3 : decode cL_nearestOnPath 3 = .ok (.iload_n 1, 1) := by decide +kernel
theorem dL_nearestOnPath_4 : decode cL_nearestOnPath 4 = .ok (.iload_n 2, 1) := by decide +kernel
theorem dL_nearestOnPath_5 : decode cL_nearestOnPath 5 = .ok (.invokevirtual 52, 3) := by decide +kernel
theorem dL_nearestOnPath_8 : decode cL_nearestOnPath 8 = .ok (.i2l, 1) := by decide +kernel
theorem dL_nearestOnPath_9 : decode cL_nearestOnPath 9 = .ok (.lastore, 1) := by decide +kernel
theorem dL_nearestOnPath_10 : decode cL_nearestOnPath 10 = .ok (.goto 11, 3) := by decide +kernel
theorem dL_nearestOnPath_13 : decode cL_nearestOnPath 13 = .ok (.astore 4, 2) := by decide +kernel
theorem dL_nearestOnPath_15 : decode cL_nearestOnPath 15 = .ok (.iconst 1, 1) := by decide +kernel
theorem dL_nearestOnPath_16 : decode cL_nearestOnPath 16 = .ok (.ireturn, 1) := by decide +kernel
theorem dL_nearestOnPath_17 : decode cL_nearestOnPath 17 = .ok (.astore 4, 2) := by decide +kernel
theorem dL_nearestOnPath_19 : decode cL_nearestOnPath 19 = .ok (.iconst 2, 1) := by decide +kernel
theorem dL_nearestOnPath_20 : decode cL_nearestOnPath 20 = .ok (.ireturn, 1) := by decide +kernel
theorem dL_nearestOnPath_21 : decode cL_nearestOnPath 21 = .ok (.iconst 0, 1) := by decide +kernel
theorem dL_nearestOnPath_22 : decode cL_nearestOnPath 22 = .ok (.ireturn, 1) := by decide +kernel
theorem dL_worst_0 : decode cL_worst 0 = .ok (.aload_n 2, 1) := by decide +kernel
theorem dL_worst_1 : decode cL_worst 1 = .ok (.iconst 0, 1) := by decide +kernel
theorem dL_worst_2 : decode cL_worst 2 = .ok (.aload_n 0, 1) := by decide +kernel
theorem dL_worst_3 : decode cL_worst 3 = .ok (.iload_n 1, 1) := by decide +kernel
theorem dL_worst_4 : decode cL_worst 4 = .ok (.invokevirtual 55, 3) := by decide +kernel
theorem dL_worst_7 : decode cL_worst 7 = .ok (.i2l, 1) := by decide +kernel
theorem dL_worst_8 : decode cL_worst 8 = .ok (.lastore, 1) := by decide +kernel
theorem dL_worst_9 : decode cL_worst 9 = .ok (.goto 6, 3) := by decide +kernel
theorem dL_worst_12 : decode cL_worst 12 = .ok (.astore_n 3, 1) := by decide +kernel
theorem dL_worst_13 : decode cL_worst 13 = .ok (.iconst 1, 1) := by decide +kernel
theorem dL_worst_14 : decode cL_worst 14 = .ok (.ireturn, 1) := by decide +kernel
theorem dL_worst_15 : decode cL_worst 15 = .ok (.iconst 0, 1) := by decide +kernel
theorem dL_worst_16 : decode cL_worst 16 = .ok (.ireturn, 1) := by decide +kernel
theorem dL_node_0 : decode cL_node 0 = .ok (.aload_n 3, 1) := by decide +kernel
theorem dL_node_1 : decode cL_node 1 = .ok (.iconst 0, 1) := by decide +kernel
theorem dL_node_2 : decode cL_node 2 = .ok (.aload_n 0, 1) := by decide +kernel
theorem dL_node_3 : decode cL_node 3 = .ok (.iload_n 1, 1) := by decide +kernel
theorem dL_node_4 : decode cL_node 4 = .ok (.iload_n 2, 1) := by decide +kernel
theorem dL_node_5 : decode cL_node 5 = .ok (.invokevirtual 58, 3) := by decide +kernel
theorem dL_node_8 : decode cL_node 8 = .ok (.i2l, 1) := by decide +kernel
theorem dL_node_9 : decode cL_node 9 = .ok (.lastore, 1) := by decide +kernel
theorem dL_node_10 : decode cL_node 10 = .ok (.goto 11, 3) := by decide +kernel
theorem dL_node_13 : decode cL_node 13 = .ok (.astore 4, 2) := by decide +kernel
theorem dL_node_15 : decode cL_node 15 = .ok (.iconst 1, 1) := by decide +kernel
theorem dL_node_16 : decode cL_node 16 = .ok (.ireturn, 1) := by decide +kernel
theorem dL_node_17 : decode cL_node 17 = .ok (.astore 4, 2) := by decide +kernel
theorem dL_node_19 : decode cL_node 19 = .ok (.iconst 2, 1) := by decide +kernel
theorem dL_node_20 : decode cL_node 20 = .ok (.ireturn, 1) := by decide +kernel
theorem dL_node_21 : decode cL_node 21 = .ok (.iconst 0, 1) := by decide +kernel
theorem dL_node_22 : decode cL_node 22 = .ok (.ireturn, 1) := by decide +kernel
theorem dL_key_0 : decode cL_key 0 = .ok (.aload_n 3, 1) := by decide +kernel
theorem dL_key_1 : decode cL_key 1 = .ok (.iconst 0, 1) := by decide +kernel
theorem dL_key_2 : decode cL_key 2 = .ok (.aload_n 0, 1) := by decide +kernel
theorem dL_key_3 : decode cL_key 3 = .ok (.iload_n 1, 1) := by decide +kernel
theorem dL_key_4 : decode cL_key 4 = .ok (.iload_n 2, 1) := by decide +kernel
theorem dL_key_5 : decode cL_key 5 = .ok (.invokevirtual 61, 3) := by decide +kernel
theorem dL_key_8 : decode cL_key 8 = .ok (.i2l, 1) := by decide +kernel
theorem dL_key_9 : decode cL_key 9 = .ok (.lastore, 1) := by decide +kernel
theorem dL_key_10 : decode cL_key 10 = .ok (.goto 11, 3) := by decide +kernel
theorem dL_key_13 : decode cL_key 13 = .ok (.astore 4, 2) := by decide +kernel
theorem dL_key_15 : decode cL_key 15 = .ok (.iconst 1, 1) := by decide +kernel
theorem dL_key_16 : decode cL_key 16 = .ok (.ireturn, 1) := by decide +kernel
theorem dL_key_17 : decode cL_key 17 = .ok (.astore 4, 2) := by decide +kernel
theorem dL_key_19 : decode cL_key 19 = .ok (.iconst 2, 1) := by decide +kernel
theorem dL_key_20 : decode cL_key 20 = .ok (.ireturn, 1) := by decide +kernel
theorem dL_key_21 : decode cL_key 21 = .ok (.iconst 0, 1) := by decide +kernel
theorem dL_key_22 : decode cL_key 22 = .ok (.ireturn, 1) := by decide +kernel
theorem dL_baseKey_0 : decode cL_baseKey 0 = .ok (.aload_n 3, 1) := by decide +kernel
theorem dL_baseKey_1 : decode cL_baseKey 1 = .ok (.iconst 0, 1) := by decide +kernel
theorem dL_baseKey_2 : decode cL_baseKey 2 = .ok (.aload_n 0, 1) := by decide +kernel
theorem dL_baseKey_3 : decode cL_baseKey 3 = .ok (.iload_n 1, 1) := by decide +kernel
theorem dL_baseKey_4 : decode cL_baseKey 4 = .ok (.iload_n 2, 1) := by decide +kernel
theorem dL_baseKey_5 : decode cL_baseKey 5 = .ok (.invokevirtual 64, 3) := by decide +kernel
theorem dL_baseKey_8 : decode cL_baseKey 8 = .ok (.i2l, 1) := by decide +kernel
theorem dL_baseKey_9 : decode cL_baseKey 9 = .ok (.lastore, 1) := by decide +kernel
theorem dL_baseKey_10 : decode cL_baseKey 10 = .ok (.goto 11, 3) := by decide +kernel
theorem dL_baseKey_13 : decode cL_baseKey 13 = .ok (.astore 4, 2) := by decide +kernel
theorem dL_baseKey_15 : decode cL_baseKey 15 = .ok (.iconst 1, 1) := by decide +kernel
theorem dL_baseKey_16 : decode cL_baseKey 16 = .ok (.ireturn, 1) := by decide +kernel
theorem dL_baseKey_17 : decode cL_baseKey 17 = .ok (.astore 4, 2) := by decide +kernel
theorem dL_baseKey_19 : decode cL_baseKey 19 = .ok (.iconst 2, 1) := by decide +kernel
theorem dL_baseKey_20 : decode cL_baseKey 20 = .ok (.ireturn, 1) := by decide +kernel
theorem dL_baseKey_21 : decode cL_baseKey 21 = .ok (.iconst 0, 1) := by decide +kernel
theorem dL_baseKey_22 : decode cL_baseKey 22 = .ok (.ireturn, 1) := by decide +kernel
theorem dL_bufferKey_0 : decode cL_bufferKey 0 = .ok (.aload_n 3, 1) := by decide +kernel
theorem dL_bufferKey_1 : decode cL_bufferKey 1 = .ok (.iconst 0, 1) := by decide +kernel
theorem dL_bufferKey_2 : decode cL_bufferKey 2 = .ok (.aload_n 0, 1) := by decide +kernel
theorem dL_bufferKey_3 : decode cL_bufferKey 3 = .ok (.iload_n 1, 1) := by decide +kernel
theorem dL_bufferKey_4 : decode cL_bufferKey 4 = .ok (.iload_n 2, 1) := by decide +kernel
theorem dL_bufferKey_5 : decode cL_bufferKey 5 = .ok (.invokevirtual 67, 3) := by decide +kernel
theorem dL_bufferKey_8 : decode cL_bufferKey 8 = .ok (.i2l, 1) := by decide +kernel
theorem dL_bufferKey_9 : decode cL_bufferKey 9 = .ok (.lastore, 1) := by decide +kernel
theorem dL_bufferKey_10 : decode cL_bufferKey 10 = .ok (.goto 11, 3) := by decide +kernel
theorem dL_bufferKey_13 : decode cL_bufferKey 13 = .ok (.astore 4, 2) := by decide +kernel
theorem dL_bufferKey_15 : decode cL_bufferKey 15 = .ok (.iconst 1, 1) := by decide +kernel
theorem dL_bufferKey_16 : decode cL_bufferKey 16 = .ok (.ireturn, 1) := by decide +kernel
theorem dL_bufferKey_17 : decode cL_bufferKey 17 = .ok (.astore 4, 2) := by decide +kernel
theorem dL_bufferKey_19 : decode cL_bufferKey 19 = .ok (.iconst 2, 1) := by decide +kernel
theorem dL_bufferKey_20 : decode cL_bufferKey 20 = .ok (.ireturn, 1) := by decide +kernel
theorem dL_bufferKey_21 : decode cL_bufferKey 21 = .ok (.iconst 0, 1) := by decide +kernel
theorem dL_bufferKey_22 : decode cL_bufferKey 22 = .ok (.ireturn, 1) := by decide +kernel
theorem dL_entry_0 : decode cL_entry 0 = .ok (.aload 4, 2) := by decide +kernel
theorem dL_entry_2 : decode cL_entry 2 = .ok (.iconst 0, 1) := by decide +kernel
theorem dL_entry_3 : decode cL_entry 3 = .ok (.aload_n 0, 1) := by decide +kernel
theorem dL_entry_4 : decode cL_entry 4 = .ok (.iload_n 1, 1) := by decide +kernel
theorem dL_entry_5 : decode cL_entry 5 = .ok (.iload_n 2, 1) := by decide +kernel
theorem dL_entry_6 : decode cL_entry 6 = .ok (.iload_n 3, 1) := by decide +kernel
theorem dL_entry_7 : decode cL_entry 7 = .ok (.invokevirtual 70, 3) := by decide +kernel
theorem dL_entry_10 : decode cL_entry 10 = .ok (.i2l, 1) := by decide +kernel
theorem dL_entry_11 : decode cL_entry 11 = .ok (.lastore, 1) := by decide +kernel
theorem dL_entry_12 : decode cL_entry 12 = .ok (.goto 11, 3) := by decide +kernel
theorem dL_entry_15 : decode cL_entry 15 = .ok (.astore 5, 2) := by decide +kernel
theorem dL_entry_17 : decode cL_entry 17 = .ok (.iconst 1, 1) := by decide +kernel
theorem dL_entry_18 : decode cL_entry 18 = .ok (.ireturn, 1) := by decide +kernel
theorem dL_entry_19 : decode cL_entry 19 = .ok (.astore 5, 2) := by decide +kernel
theorem dL_entry_21 : decode cL_entry 21 = .ok (.iconst 2, 1) := by decide +kernel
theorem dL_entry_22 : decode cL_entry 22 = .ok (.ireturn, 1) := by decide +kernel
theorem dL_entry_23 : decode cL_entry 23 = .ok (.iconst 0, 1) := by decide +kernel
theorem dL_entry_24 : decode cL_entry 24 = .ok (.ireturn, 1) := by decide +kernel
theorem dL_bridge_0 : decode cL_bridge 0 = .ok (.aload 4, 2) := by decide +kernel
theorem dL_bridge_2 : decode cL_bridge 2 = .ok (.iconst 0, 1) := by decide +kernel
theorem dL_bridge_3 : decode cL_bridge 3 = .ok (.aload_n 0, 1) := by decide +kernel
theorem dL_bridge_4 : decode cL_bridge 4 = .ok (.iload_n 1, 1) := by decide +kernel
theorem dL_bridge_5 : decode cL_bridge 5 = .ok (.iload_n 2, 1) := by decide +kernel
theorem dL_bridge_6 : decode cL_bridge 6 = .ok (.iload_n 3, 1) := by decide +kernel
theorem dL_bridge_7 : decode cL_bridge 7 = .ok (.invokevirtual 74, 3) := by decide +kernel
theorem dL_bridge_10 : decode cL_bridge 10 = .ok (.i2l, 1) := by decide +kernel
theorem dL_bridge_11 : decode cL_bridge 11 = .ok (.lastore, 1) := by decide +kernel
theorem dL_bridge_12 : decode cL_bridge 12 = .ok (.goto 11, 3) := by decide +kernel
theorem dL_bridge_15 : decode cL_bridge 15 = .ok (.astore 5, 2) := by decide +kernel
theorem dL_bridge_17 : decode cL_bridge 17 = .ok (.iconst 1, 1) := by decide +kernel
theorem dL_bridge_18 : decode cL_bridge 18 = .ok (.ireturn, 1) := by decide +kernel
theorem dL_bridge_19 : decode cL_bridge 19 = .ok (.astore 5, 2) := by decide +kernel
theorem dL_bridge_21 : decode cL_bridge 21 = .ok (.iconst 2, 1) := by decide +kernel
theorem dL_bridge_22 : decode cL_bridge 22 = .ok (.ireturn, 1) := by decide +kernel
theorem dL_bridge_23 : decode cL_bridge 23 = .ok (.iconst 0, 1) := by decide +kernel
theorem dL_bridge_24 : decode cL_bridge 24 = .ok (.ireturn, 1) := by decide +kernel
theorem dL_count_0 : decode cL_count 0 = .ok (.aload_n 2, 1) := by decide +kernel
theorem dL_count_1 : decode cL_count 1 = .ok (.iconst 0, 1) := by decide +kernel
theorem dL_count_2 : decode cL_count 2 = .ok (.aload_n 0, 1) := by decide +kernel
theorem dL_count_3 : decode cL_count 3 = .ok (.iload_n 1, 1) := by decide +kernel
theorem dL_count_4 : decode cL_count 4 = .ok (.invokevirtual 77, 3) := by decide +kernel
theorem dL_count_7 : decode cL_count 7 = .ok (.i2l, 1) := by decide +kernel
theorem dL_count_8 : decode cL_count 8 = .ok (.lastore, 1) := by decide +kernel
theorem dL_count_9 : decode cL_count 9 = .ok (.goto 6, 3) := by decide +kernel
theorem dL_count_12 : decode cL_count 12 = .ok (.astore_n 3, 1) := by decide +kernel
theorem dL_count_13 : decode cL_count 13 = .ok (.iconst 1, 1) := by decide +kernel
theorem dL_count_14 : decode cL_count 14 = .ok (.ireturn, 1) := by decide +kernel
theorem dL_count_15 : decode cL_count 15 = .ok (.iconst 0, 1) := by decide +kernel
theorem dL_count_16 : decode cL_count 16 = .ok (.ireturn, 1) := by decide +kernel
theorem dL_undo_0 : decode cL_undo 0 = .ok (.aload_n 1, 1) := by decide +kernel
theorem dL_undo_1 : decode cL_undo 1 = .ok (.iconst 0, 1) := by decide +kernel
theorem dL_undo_2 : decode cL_undo 2 = .ok (.aload_n 0, 1) := by decide +kernel
theorem dL_undo_3 : decode cL_undo 3 = .ok (.invokevirtual 80, 3) := by decide +kernel
theorem dL_undo_6 : decode cL_undo 6 = .ok (.i2l, 1) := by decide +kernel
theorem dL_undo_7 : decode cL_undo 7 = .ok (.lastore, 1) := by decide +kernel
theorem dL_undo_8 : decode cL_undo 8 = .ok (.goto 6, 3) := by decide +kernel
theorem dL_undo_11 : decode cL_undo 11 = .ok (.astore_n 2, 1) := by decide +kernel
theorem dL_undo_12 : decode cL_undo 12 = .ok (.iconst 1, 1) := by decide +kernel
theorem dL_undo_13 : decode cL_undo 13 = .ok (.ireturn, 1) := by decide +kernel
theorem dL_undo_14 : decode cL_undo 14 = .ok (.iconst 0, 1) := by decide +kernel
theorem dL_undo_15 : decode cL_undo 15 = .ok (.ireturn, 1) := by decide +kernel
theorem dL_law_0 : decode cL_law 0 = .ok (.new 8, 3) := by decide +kernel
theorem dL_law_3 : decode cL_law 3 = .ok (.dup, 1) := by decide +kernel
theorem dL_law_4 : decode cL_law 4 = .ok (.invokespecial 84, 3) := by decide +kernel
theorem dL_law_7 : decode cL_law 7 = .ok (.astore_n 1, 1) := by decide +kernel
theorem dL_law_8 : decode cL_law 8 = .ok (.new 85, 3) := by decide +kernel
theorem dL_law_11 : decode cL_law 11 = .ok (.dup, 1) := by decide +kernel
theorem dL_law_12 : decode cL_law 12 = .ok (.invokespecial 87, 3) := by decide +kernel
theorem dL_law_15 : decode cL_law 15 = .ok (.astore_n 2, 1) := by decide +kernel
theorem dL_law_16 : decode cL_law 16 = .ok (.iconst 1, 1) := by decide +kernel
theorem dL_law_17 : decode cL_law 17 = .ok (.newarray .long, 2) := by decide +kernel
theorem dL_law_19 : decode cL_law 19 = .ok (.astore_n 3, 1) := by decide +kernel
theorem dL_law_20 : decode cL_law 20 = .ok (.iconst 0, 1) := by decide +kernel
theorem dL_law_21 : decode cL_law 21 = .ok (.istore 4, 2) := by decide +kernel
theorem dL_law_23 : decode cL_law 23 = .ok (.iload 4, 2) := by decide +kernel
theorem dL_law_25 : decode cL_law 25 = .ok (.aload_n 0, 1) := by decide +kernel
theorem dL_law_26 : decode cL_law 26 = .ok (.arraylength, 1) := by decide +kernel
theorem dL_law_27 : decode cL_law 27 = .ok (.iconst 5, 1) := by decide +kernel
theorem dL_law_28 : decode cL_law 28 = .ok (.isub, 1) := by decide +kernel
theorem dL_law_29 : decode cL_law 29 = .ok (.if_icmp .gt 1595, 3) := by decide +kernel
theorem dL_law_32 : decode cL_law 32 = .ok (.aload_n 0, 1) := by decide +kernel
theorem dL_law_33 : decode cL_law 33 = .ok (.iload 4, 2) := by decide +kernel
theorem dL_law_35 : decode cL_law 35 = .ok (.iaload, 1) := by decide +kernel
theorem dL_law_36 : decode cL_law 36 = .ok (.bipush 31, 2) := by decide +kernel
theorem dL_law_38 : decode cL_law 38 = .ok (.iand, 1) := by decide +kernel
theorem dL_law_39 : decode cL_law 39 = .ok (.tableswitch 1579 0 23 #[109, 177, 252, 327, 419, 487, 543, 556, 624, 692, 760, 828, 896, 964, 1020, 1033, 1101, 1169, 1237, 1305, 1385, 1465, 1521, 1565], 109) := by decide +kernel
theorem dL_law_148 : decode cL_law 148 = .ok (.aload_n 1, 1) := by decide +kernel
theorem dL_law_149 : decode cL_law 149 = .ok (.aload_n 0, 1) := by decide +kernel
theorem dL_law_150 : decode cL_law 150 = .ok (.iload 4, 2) := by decide +kernel
theorem dL_law_152 : decode cL_law 152 = .ok (.iconst 1, 1) := by decide +kernel
theorem dL_law_153 : decode cL_law 153 = .ok (.iadd, 1) := by decide +kernel
theorem dL_law_154 : decode cL_law 154 = .ok (.iaload, 1) := by decide +kernel
theorem dL_law_155 : decode cL_law 155 = .ok (.aload_n 0, 1) := by decide +kernel
theorem dL_law_156 : decode cL_law 156 = .ok (.iload 4, 2) := by decide +kernel
theorem dL_law_158 : decode cL_law 158 = .ok (.iconst 2, 1) := by decide +kernel
theorem dL_law_159 : decode cL_law 159 = .ok (.iadd, 1) := by decide +kernel
theorem dL_law_160 : decode cL_law 160 = .ok (.iaload, 1) := by decide +kernel
theorem dL_law_161 : decode cL_law 161 = .ok (.aload_n 3, 1) := by decide +kernel
theorem dL_law_162 : decode cL_law 162 = .ok (.invokestatic 88, 3) := by decide +kernel
theorem dL_law_165 : decode cL_law 165 = .ok (.istore 5, 2) := by decide +kernel
theorem dL_law_167 : decode cL_law 167 = .ok (.aload_n 2, 1) := by decide +kernel
theorem dL_law_168 : decode cL_law 168 = .ok (.aload_n 0, 1) := by decide +kernel
theorem dL_law_169 : decode cL_law 169 = .ok (.iload 4, 2) := by decide +kernel
theorem dL_law_171 : decode cL_law 171 = .ok (.iconst 1, 1) := by decide +kernel
theorem dL_law_172 : decode cL_law 172 = .ok (.iadd, 1) := by decide +kernel
theorem dL_law_173 : decode cL_law 173 = .ok (.iaload, 1) := by decide +kernel
theorem dL_law_174 : decode cL_law 174 = .ok (.aload_n 0, 1) := by decide +kernel
theorem dL_law_175 : decode cL_law 175 = .ok (.iload 4, 2) := by decide +kernel
theorem dL_law_177 : decode cL_law 177 = .ok (.iconst 2, 1) := by decide +kernel
theorem dL_law_178 : decode cL_law 178 = .ok (.iadd, 1) := by decide +kernel
theorem dL_law_179 : decode cL_law 179 = .ok (.iaload, 1) := by decide +kernel
theorem dL_law_180 : decode cL_law 180 = .ok (.invokevirtual 93, 3) := by decide +kernel
theorem dL_law_183 : decode cL_law 183 = .ok (.istore 6, 2) := by decide +kernel
theorem dL_law_185 : decode cL_law 185 = .ok (.aload_n 2, 1) := by decide +kernel
theorem dL_law_186 : decode cL_law 186 = .ok (.invokevirtual 94, 3) := by decide +kernel
theorem dL_law_189 : decode cL_law 189 = .ok (.iload 5, 2) := by decide +kernel
theorem dL_law_191 : decode cL_law 191 = .ok (.if_icmp .eq 5, 3) := by decide +kernel
theorem dL_law_194 : decode cL_law 194 = .ok (.iconst 0, 1) := by decide +kernel
theorem dL_law_195 : decode cL_law 195 = .ok (.ireturn, 1) := by decide +kernel
theorem dL_law_196 : decode cL_law 196 = .ok (.iload 5, 2) := by decide +kernel
theorem dL_law_198 : decode cL_law 198 = .ok (.ifCond .ne 15, 3) := by decide +kernel
theorem dL_law_201 : decode cL_law 201 = .ok (.aload_n 3, 1) := by decide +kernel
theorem dL_law_202 : decode cL_law 202 = .ok (.iconst 0, 1) := by decide +kernel
theorem dL_law_203 : decode cL_law 203 = .ok (.laload, 1) := by decide +kernel
theorem dL_law_204 : decode cL_law 204 = .ok (.iload 6, 2) := by decide +kernel
theorem dL_law_206 : decode cL_law 206 = .ok (.i2l, 1) := by decide +kernel
theorem dL_law_207 : decode cL_law 207 = .ok (.lcmp, 1) := by decide +kernel
theorem dL_law_208 : decode cL_law 208 = .ok (.ifCond .eq 5, 3) := by decide +kernel
theorem dL_law_211 : decode cL_law 211 = .ok (.iconst 0, 1) := by decide +kernel
theorem dL_law_212 : decode cL_law 212 = .ok (.ireturn, 1) := by decide +kernel
theorem dL_law_213 : decode cL_law 213 = .ok (.goto 1405, 3) := by decide +kernel
theorem dL_law_216 : decode cL_law 216 = .ok (.aload_n 1, 1) := by decide +kernel
theorem dL_law_217 : decode cL_law 217 = .ok (.aload_n 0, 1) := by decide +kernel
theorem dL_law_218 : decode cL_law 218 = .ok (.iload 4, 2) := by decide +kernel
theorem dL_law_220 : decode cL_law 220 = .ok (.iconst 1, 1) := by decide +kernel
theorem dL_law_221 : decode cL_law 221 = .ok (.iadd, 1) := by decide +kernel
theorem dL_law_222 : decode cL_law 222 = .ok (.iaload, 1) := by decide +kernel
theorem dL_law_223 : decode cL_law 223 = .ok (.aload_n 0, 1) := by decide +kernel
theorem dL_law_224 : decode cL_law 224 = .ok (.iload 4, 2) := by decide +kernel
theorem dL_law_226 : decode cL_law 226 = .ok (.iconst 2, 1) := by decide +kernel
theorem dL_law_227 : decode cL_law 227 = .ok (.iadd, 1) := by decide +kernel
theorem dL_law_228 : decode cL_law 228 = .ok (.iaload, 1) := by decide +kernel
theorem dL_law_229 : decode cL_law 229 = .ok (.aload_n 3, 1) := by decide +kernel
theorem dL_law_230 : decode cL_law 230 = .ok (.invokestatic 97, 3) := by decide +kernel
theorem dL_law_233 : decode cL_law 233 = .ok (.istore 5, 2) := by decide +kernel
theorem dL_law_235 : decode cL_law 235 = .ok (.aload_n 2, 1) := by decide +kernel
theorem dL_law_236 : decode cL_law 236 = .ok (.aload_n 0, 1) := by decide +kernel
theorem dL_law_237 : decode cL_law 237 = .ok (.iload 4, 2) := by decide +kernel
theorem dL_law_239 : decode cL_law 239 = .ok (.iconst 1, 1) := by decide +kernel
theorem dL_law_240 : decode cL_law 240 = .ok (.iadd, 1) := by decide +kernel
theorem dL_law_241 : decode cL_law 241 = .ok (.iaload, 1) := by decide +kernel
theorem dL_law_242 : decode cL_law 242 = .ok (.aload_n 0, 1) := by decide +kernel
theorem dL_law_243 : decode cL_law 243 = .ok (.iload 4, 2) := by decide +kernel
theorem dL_law_245 : decode cL_law 245 = .ok (.iconst 2, 1) := by decide +kernel
theorem dL_law_246 : decode cL_law 246 = .ok (.iadd, 1) := by decide +kernel
theorem dL_law_247 : decode cL_law 247 = .ok (.iaload, 1) := by decide +kernel
theorem dL_law_248 : decode cL_law 248 = .ok (.invokevirtual 99, 3) := by decide +kernel
theorem dL_law_251 : decode cL_law 251 = .ok (.istore 6, 2) := by decide +kernel
theorem dL_law_253 : decode cL_law 253 = .ok (.aload_n 2, 1) := by decide +kernel
theorem dL_law_254 : decode cL_law 254 = .ok (.invokevirtual 94, 3) := by decide +kernel
theorem dL_law_257 : decode cL_law 257 = .ok (.iload 5, 2) := by decide +kernel
theorem dL_law_259 : decode cL_law 259 = .ok (.if_icmp .eq 5, 3) := by decide +kernel
theorem dL_law_262 : decode cL_law 262 = .ok (.iconst 0, 1) := by decide +kernel
theorem dL_law_263 : decode cL_law 263 = .ok (.ireturn, 1) := by decide +kernel
theorem dL_law_264 : decode cL_law 264 = .ok (.iload 5, 2) := by decide +kernel
theorem dL_law_266 : decode cL_law 266 = .ok (.ifCond .ne 22, 3) := by decide +kernel
theorem dL_law_269 : decode cL_law 269 = .ok (.aload_n 3, 1) := by decide +kernel
theorem dL_law_270 : decode cL_law 270 = .ok (.iconst 0, 1) := by decide +kernel
theorem dL_law_271 : decode cL_law 271 = .ok (.laload, 1) := by decide +kernel
theorem dL_law_272 : decode cL_law 272 = .ok (.iload 6, 2) := by decide +kernel
theorem dL_law_274 : decode cL_law 274 = .ok (.ifCond .eq 7, 3) := by decide +kernel
theorem dL_law_277 : decode cL_law 277 = .ok (.lconst 1, 1) := by decide +kernel
theorem dL_law_278 : decode cL_law 278 = .ok (.goto 4, 3) := by decide +kernel
theorem dL_law_281 : decode cL_law 281 = .ok (.lconst 0, 1) := by decide +kernel
theorem dL_law_282 : decode cL_law 282 = .ok (.lcmp, 1) := by decide +kernel
theorem dL_law_283 : decode cL_law 283 = .ok (.ifCond .eq 5, 3) := by decide +kernel
theorem dL_law_286 : decode cL_law 286 = .ok (.iconst 0, 1) := by decide +kernel
theorem dL_law_287 : decode cL_law 287 = .ok (.ireturn, 1) := by decide +kernel
theorem dL_law_288 : decode cL_law 288 = .ok (.goto 1330, 3) := by decide +kernel
theorem dL_law_291 : decode cL_law 291 = .ok (.aload_n 1, 1) := by decide +kernel
theorem dL_law_292 : decode cL_law 292 = .ok (.aload_n 0, 1) := by decide +kernel
theorem dL_law_293 : decode cL_law 293 = .ok (.iload 4, 2) := by decide +kernel
theorem dL_law_295 : decode cL_law 295 = .ok (.iconst 1, 1) := by decide +kernel
theorem dL_law_296 : decode cL_law 296 = .ok (.iadd, 1) := by decide +kernel
theorem dL_law_297 : decode cL_law 297 = .ok (.iaload, 1) := by decide +kernel
theorem dL_law_298 : decode cL_law 298 = .ok (.aload_n 0, 1) := by decide +kernel
theorem dL_law_299 : decode cL_law 299 = .ok (.iload 4, 2) := by decide +kernel
theorem dL_law_301 : decode cL_law 301 = .ok (.iconst 2, 1) := by decide +kernel
theorem dL_law_302 : decode cL_law 302 = .ok (.iadd, 1) := by decide +kernel
theorem dL_law_303 : decode cL_law 303 = .ok (.iaload, 1) := by decide +kernel
theorem dL_law_304 : decode cL_law 304 = .ok (.aload_n 3, 1) := by decide +kernel
theorem dL_law_305 : decode cL_law 305 = .ok (.invokestatic 100, 3) := by decide +kernel
theorem dL_law_308 : decode cL_law 308 = .ok (.istore 5, 2) := by decide +kernel
theorem dL_law_310 : decode cL_law 310 = .ok (.aload_n 2, 1) := by decide +kernel
theorem dL_law_311 : decode cL_law 311 = .ok (.aload_n 0, 1) := by decide +kernel
theorem dL_law_312 : decode cL_law 312 = .ok (.iload 4, 2) := by decide +kernel
theorem dL_law_314 : decode cL_law 314 = .ok (.iconst 1, 1) := by decide +kernel
theorem dL_law_315 : decode cL_law 315 = .ok (.iadd, 1) := by decide +kernel
theorem dL_law_316 : decode cL_law 316 = .ok (.iaload, 1) := by decide +kernel
theorem dL_law_317 : decode cL_law 317 = .ok (.aload_n 0, 1) := by decide +kernel
theorem dL_law_318 : decode cL_law 318 = .ok (.iload 4, 2) := by decide +kernel
theorem dL_law_320 : decode cL_law 320 = .ok (.iconst 2, 1) := by decide +kernel
theorem dL_law_321 : decode cL_law 321 = .ok (.iadd, 1) := by decide +kernel
theorem dL_law_322 : decode cL_law 322 = .ok (.iaload, 1) := by decide +kernel
theorem dL_law_323 : decode cL_law 323 = .ok (.invokevirtual 102, 3) := by decide +kernel
theorem dL_law_326 : decode cL_law 326 = .ok (.istore 6, 2) := by decide +kernel
theorem dL_law_328 : decode cL_law 328 = .ok (.aload_n 2, 1) := by decide +kernel
theorem dL_law_329 : decode cL_law 329 = .ok (.invokevirtual 94, 3) := by decide +kernel
theorem dL_law_332 : decode cL_law 332 = .ok (.iload 5, 2) := by decide +kernel
theorem dL_law_334 : decode cL_law 334 = .ok (.if_icmp .eq 5, 3) := by decide +kernel
theorem dL_law_337 : decode cL_law 337 = .ok (.iconst 0, 1) := by decide +kernel
theorem dL_law_338 : decode cL_law 338 = .ok (.ireturn, 1) := by decide +kernel
theorem dL_law_339 : decode cL_law 339 = .ok (.iload 5, 2) := by decide +kernel
theorem dL_law_341 : decode cL_law 341 = .ok (.ifCond .ne 22, 3) := by decide +kernel
theorem dL_law_344 : decode cL_law 344 = .ok (.aload_n 3, 1) := by decide +kernel
theorem dL_law_345 : decode cL_law 345 = .ok (.iconst 0, 1) := by decide +kernel
theorem dL_law_346 : decode cL_law 346 = .ok (.laload, 1) := by decide +kernel
theorem dL_law_347 : decode cL_law 347 = .ok (.iload 6, 2) := by decide +kernel
theorem dL_law_349 : decode cL_law 349 = .ok (.ifCond .eq 7, 3) := by decide +kernel
theorem dL_law_352 : decode cL_law 352 = .ok (.lconst 1, 1) := by decide +kernel
theorem dL_law_353 : decode cL_law 353 = .ok (.goto 4, 3) := by decide +kernel
theorem dL_law_356 : decode cL_law 356 = .ok (.lconst 0, 1) := by decide +kernel
theorem dL_law_357 : decode cL_law 357 = .ok (.lcmp, 1) := by decide +kernel
theorem dL_law_358 : decode cL_law 358 = .ok (.ifCond .eq 5, 3) := by decide +kernel
theorem dL_law_361 : decode cL_law 361 = .ok (.iconst 0, 1) := by decide +kernel
theorem dL_law_362 : decode cL_law 362 = .ok (.ireturn, 1) := by decide +kernel
theorem dL_law_363 : decode cL_law 363 = .ok (.goto 1255, 3) := by decide +kernel
theorem dL_law_366 : decode cL_law 366 = .ok (.aload_n 1, 1) := by decide +kernel
theorem dL_law_367 : decode cL_law 367 = .ok (.aload_n 0, 1) := by decide +kernel
theorem dL_law_368 : decode cL_law 368 = .ok (.iload 4, 2) := by decide +kernel
theorem dL_law_370 : decode cL_law 370 = .ok (.iconst 1, 1) := by decide +kernel
theorem dL_law_371 : decode cL_law 371 = .ok (.iadd, 1) := by decide +kernel
theorem dL_law_372 : decode cL_law 372 = .ok (.iaload, 1) := by decide +kernel
theorem dL_law_373 : decode cL_law 373 = .ok (.aload_n 0, 1) := by decide +kernel
theorem dL_law_374 : decode cL_law 374 = .ok (.iload 4, 2) := by decide +kernel
theorem dL_law_376 : decode cL_law 376 = .ok (.iconst 2, 1) := by decide +kernel
theorem dL_law_377 : decode cL_law 377 = .ok (.iadd, 1) := by decide +kernel
theorem dL_law_378 : decode cL_law 378 = .ok (.iaload, 1) := by decide +kernel
theorem dL_law_379 : decode cL_law 379 = .ok (.aload_n 0, 1) := by decide +kernel
theorem dL_law_380 : decode cL_law 380 = .ok (.iload 4, 2) := by decide +kernel
theorem dL_law_382 : decode cL_law 382 = .ok (.iconst 3, 1) := by decide +kernel
theorem dL_law_383 : decode cL_law 383 = .ok (.iadd, 1) := by decide +kernel
theorem dL_law_384 : decode cL_law 384 = .ok (.iaload, 1) := by decide +kernel
theorem dL_law_385 : decode cL_law 385 = .ok (.aload_n 0, 1) := by decide +kernel
theorem dL_law_386 : decode cL_law 386 = .ok (.iload 4, 2) := by decide +kernel
theorem dL_law_388 : decode cL_law 388 = .ok (.iconst 4, 1) := by decide +kernel
theorem dL_law_389 : decode cL_law 389 = .ok (.iadd, 1) := by decide +kernel
theorem dL_law_390 : decode cL_law 390 = .ok (.iaload, 1) := by decide +kernel
theorem dL_law_391 : decode cL_law 391 = .ok (.aload_n 3, 1) := by decide +kernel
theorem dL_law_392 : decode cL_law 392 = .ok (.invokestatic 103, 3) := by decide +kernel
theorem dL_law_395 : decode cL_law 395 = .ok (.istore 5, 2) := by decide +kernel
theorem dL_law_397 : decode cL_law 397 = .ok (.aload_n 2, 1) := by decide +kernel
theorem dL_law_398 : decode cL_law 398 = .ok (.aload_n 0, 1) := by decide +kernel
theorem dL_law_399 : decode cL_law 399 = .ok (.iload 4, 2) := by decide +kernel
theorem dL_law_401 : decode cL_law 401 = .ok (.iconst 1, 1) := by decide +kernel
theorem dL_law_402 : decode cL_law 402 = .ok (.iadd, 1) := by decide +kernel
theorem dL_law_403 : decode cL_law 403 = .ok (.iaload, 1) := by decide +kernel
theorem dL_law_404 : decode cL_law 404 = .ok (.aload_n 0, 1) := by decide +kernel
theorem dL_law_405 : decode cL_law 405 = .ok (.iload 4, 2) := by decide +kernel
theorem dL_law_407 : decode cL_law 407 = .ok (.iconst 2, 1) := by decide +kernel
theorem dL_law_408 : decode cL_law 408 = .ok (.iadd, 1) := by decide +kernel
theorem dL_law_409 : decode cL_law 409 = .ok (.iaload, 1) := by decide +kernel
theorem dL_law_410 : decode cL_law 410 = .ok (.aload_n 0, 1) := by decide +kernel
theorem dL_law_411 : decode cL_law 411 = .ok (.iload 4, 2) := by decide +kernel
theorem dL_law_413 : decode cL_law 413 = .ok (.iconst 3, 1) := by decide +kernel
theorem dL_law_414 : decode cL_law 414 = .ok (.iadd, 1) := by decide +kernel
theorem dL_law_415 : decode cL_law 415 = .ok (.iaload, 1) := by decide +kernel
theorem dL_law_416 : decode cL_law 416 = .ok (.aload_n 0, 1) := by decide +kernel
theorem dL_law_417 : decode cL_law 417 = .ok (.iload 4, 2) := by decide +kernel
theorem dL_law_419 : decode cL_law 419 = .ok (.iconst 4, 1) := by decide +kernel
theorem dL_law_420 : decode cL_law 420 = .ok (.iadd, 1) := by decide +kernel
theorem dL_law_421 : decode cL_law 421 = .ok (.iaload, 1) := by decide +kernel
theorem dL_law_422 : decode cL_law 422 = .ok (.invokevirtual 106, 3) := by decide +kernel
theorem dL_law_425 : decode cL_law 425 = .ok (.istore 6, 2) := by decide +kernel
theorem dL_law_427 : decode cL_law 427 = .ok (.aload_n 2, 1) := by decide +kernel
theorem dL_law_428 : decode cL_law 428 = .ok (.invokevirtual 94, 3) := by decide +kernel
theorem dL_law_431 : decode cL_law 431 = .ok (.iload 5, 2) := by decide +kernel
theorem dL_law_433 : decode cL_law 433 = .ok (.if_icmp .eq 5, 3) := by decide +kernel
theorem dL_law_436 : decode cL_law 436 = .ok (.iconst 0, 1) := by decide +kernel
theorem dL_law_437 : decode cL_law 437 = .ok (.ireturn, 1) := by decide +kernel
theorem dL_law_438 : decode cL_law 438 = .ok (.iload 5, 2) := by decide +kernel
theorem dL_law_440 : decode cL_law 440 = .ok (.ifCond .ne 15, 3) := by decide +kernel
theorem dL_law_443 : decode cL_law 443 = .ok (.aload_n 3, 1) := by decide +kernel
theorem dL_law_444 : decode cL_law 444 = .ok (.iconst 0, 1) := by decide +kernel
theorem dL_law_445 : decode cL_law 445 = .ok (.laload, 1) := by decide +kernel
theorem dL_law_446 : decode cL_law 446 = .ok (.iload 6, 2) := by decide +kernel
theorem dL_law_448 : decode cL_law 448 = .ok (.i2l, 1) := by decide +kernel
theorem dL_law_449 : decode cL_law 449 = .ok (.lcmp, 1) := by decide +kernel
theorem dL_law_450 : decode cL_law 450 = .ok (.ifCond .eq 5, 3) := by decide +kernel
theorem dL_law_453 : decode cL_law 453 = .ok (.iconst 0, 1) := by decide +kernel
theorem dL_law_454 : decode cL_law 454 = .ok (.ireturn, 1) := by decide +kernel
theorem dL_law_455 : decode cL_law 455 = .ok (.goto 1163, 3) := by decide +kernel
theorem dL_law_458 : decode cL_law 458 = .ok (.aload_n 1, 1) := by decide +kernel
theorem dL_law_459 : decode cL_law 459 = .ok (.aload_n 0, 1) := by decide +kernel
theorem dL_law_460 : decode cL_law 460 = .ok (.iload 4, 2) := by decide +kernel
theorem dL_law_462 : decode cL_law 462 = .ok (.iconst 1, 1) := by decide +kernel
theorem dL_law_463 : decode cL_law 463 = .ok (.iadd, 1) := by decide +kernel
theorem dL_law_464 : decode cL_law 464 = .ok (.iaload, 1) := by decide +kernel
theorem dL_law_465 : decode cL_law 465 = .ok (.aload_n 0, 1) := by decide +kernel
theorem dL_law_466 : decode cL_law 466 = .ok (.iload 4, 2) := by decide +kernel
theorem dL_law_468 : decode cL_law 468 = .ok (.iconst 2, 1) := by decide +kernel
theorem dL_law_469 : decode cL_law 469 = .ok (.iadd, 1) := by decide +kernel
theorem dL_law_470 : decode cL_law 470 = .ok (.iaload, 1) := by decide +kernel
theorem dL_law_471 : decode cL_law 471 = .ok (.aload_n 3, 1) := by decide +kernel
theorem dL_law_472 : decode cL_law 472 = .ok (.invokestatic 107, 3) := by decide +kernel
theorem dL_law_475 : decode cL_law 475 = .ok (.istore 5, 2) := by decide +kernel
theorem dL_law_477 : decode cL_law 477 = .ok (.aload_n 2, 1) := by decide +kernel
theorem dL_law_478 : decode cL_law 478 = .ok (.aload_n 0, 1) := by decide +kernel
theorem dL_law_479 : decode cL_law 479 = .ok (.iload 4, 2) := by decide +kernel
theorem dL_law_481 : decode cL_law 481 = .ok (.iconst 1, 1) := by decide +kernel
theorem dL_law_482 : decode cL_law 482 = .ok (.iadd, 1) := by decide +kernel
theorem dL_law_483 : decode cL_law 483 = .ok (.iaload, 1) := by decide +kernel
theorem dL_law_484 : decode cL_law 484 = .ok (.aload_n 0, 1) := by decide +kernel
theorem dL_law_485 : decode cL_law 485 = .ok (.iload 4, 2) := by decide +kernel
theorem dL_law_487 : decode cL_law 487 = .ok (.iconst 2, 1) := by decide +kernel
theorem dL_law_488 : decode cL_law 488 = .ok (.iadd, 1) := by decide +kernel
theorem dL_law_489 : decode cL_law 489 = .ok (.iaload, 1) := by decide +kernel
theorem dL_law_490 : decode cL_law 490 = .ok (.invokevirtual 109, 3) := by decide +kernel
theorem dL_law_493 : decode cL_law 493 = .ok (.istore 6, 2) := by decide +kernel
theorem dL_law_495 : decode cL_law 495 = .ok (.aload_n 2, 1) := by decide +kernel
theorem dL_law_496 : decode cL_law 496 = .ok (.invokevirtual 94, 3) := by decide +kernel
theorem dL_law_499 : decode cL_law 499 = .ok (.iload 5, 2) := by decide +kernel
theorem dL_law_501 : decode cL_law 501 = .ok (.if_icmp .eq 5, 3) := by decide +kernel
theorem dL_law_504 : decode cL_law 504 = .ok (.iconst 0, 1) := by decide +kernel
theorem dL_law_505 : decode cL_law 505 = .ok (.ireturn, 1) := by decide +kernel
theorem dL_law_506 : decode cL_law 506 = .ok (.iload 5, 2) := by decide +kernel
theorem dL_law_508 : decode cL_law 508 = .ok (.ifCond .ne 15, 3) := by decide +kernel
theorem dL_law_511 : decode cL_law 511 = .ok (.aload_n 3, 1) := by decide +kernel
theorem dL_law_512 : decode cL_law 512 = .ok (.iconst 0, 1) := by decide +kernel
theorem dL_law_513 : decode cL_law 513 = .ok (.laload, 1) := by decide +kernel
theorem dL_law_514 : decode cL_law 514 = .ok (.iload 6, 2) := by decide +kernel
theorem dL_law_516 : decode cL_law 516 = .ok (.i2l, 1) := by decide +kernel
theorem dL_law_517 : decode cL_law 517 = .ok (.lcmp, 1) := by decide +kernel
theorem dL_law_518 : decode cL_law 518 = .ok (.ifCond .eq 5, 3) := by decide +kernel
theorem dL_law_521 : decode cL_law 521 = .ok (.iconst 0, 1) := by decide +kernel
theorem dL_law_522 : decode cL_law 522 = .ok (.ireturn, 1) := by decide +kernel
theorem dL_law_523 : decode cL_law 523 = .ok (.goto 1095, 3) := by decide +kernel
theorem dL_law_526 : decode cL_law 526 = .ok (.aload_n 1, 1) := by decide +kernel
theorem dL_law_527 : decode cL_law 527 = .ok (.aload_n 0, 1) := by decide +kernel
theorem dL_law_528 : decode cL_law 528 = .ok (.iload 4, 2) := by decide +kernel
theorem dL_law_530 : decode cL_law 530 = .ok (.iconst 1, 1) := by decide +kernel
theorem dL_law_531 : decode cL_law 531 = .ok (.iadd, 1) := by decide +kernel
theorem dL_law_532 : decode cL_law 532 = .ok (.iaload, 1) := by decide +kernel
theorem dL_law_533 : decode cL_law 533 = .ok (.aload_n 3, 1) := by decide +kernel
theorem dL_law_534 : decode cL_law 534 = .ok (.invokestatic 110, 3) := by decide +kernel
theorem dL_law_537 : decode cL_law 537 = .ok (.istore 5, 2) := by decide +kernel
theorem dL_law_539 : decode cL_law 539 = .ok (.aload_n 2, 1) := by decide +kernel
theorem dL_law_540 : decode cL_law 540 = .ok (.aload_n 0, 1) := by decide +kernel
theorem dL_law_541 : decode cL_law 541 = .ok (.iload 4, 2) := by decide +kernel
theorem dL_law_543 : decode cL_law 543 = .ok (.iconst 1, 1) := by decide +kernel
theorem dL_law_544 : decode cL_law 544 = .ok (.iadd, 1) := by decide +kernel
theorem dL_law_545 : decode cL_law 545 = .ok (.iaload, 1) := by decide +kernel
theorem dL_law_546 : decode cL_law 546 = .ok (.invokevirtual 113, 3) := by decide +kernel
theorem dL_law_549 : decode cL_law 549 = .ok (.istore 6, 2) := by decide +kernel
theorem dL_law_551 : decode cL_law 551 = .ok (.aload_n 2, 1) := by decide +kernel
theorem dL_law_552 : decode cL_law 552 = .ok (.invokevirtual 94, 3) := by decide +kernel
theorem dL_law_555 : decode cL_law 555 = .ok (.iload 5, 2) := by decide +kernel
theorem dL_law_557 : decode cL_law 557 = .ok (.if_icmp .eq 5, 3) := by decide +kernel
theorem dL_law_560 : decode cL_law 560 = .ok (.iconst 0, 1) := by decide +kernel
theorem dL_law_561 : decode cL_law 561 = .ok (.ireturn, 1) := by decide +kernel
theorem dL_law_562 : decode cL_law 562 = .ok (.iload 5, 2) := by decide +kernel
theorem dL_law_564 : decode cL_law 564 = .ok (.ifCond .ne 15, 3) := by decide +kernel
theorem dL_law_567 : decode cL_law 567 = .ok (.aload_n 3, 1) := by decide +kernel
theorem dL_law_568 : decode cL_law 568 = .ok (.iconst 0, 1) := by decide +kernel
theorem dL_law_569 : decode cL_law 569 = .ok (.laload, 1) := by decide +kernel
theorem dL_law_570 : decode cL_law 570 = .ok (.iload 6, 2) := by decide +kernel
theorem dL_law_572 : decode cL_law 572 = .ok (.i2l, 1) := by decide +kernel
theorem dL_law_573 : decode cL_law 573 = .ok (.lcmp, 1) := by decide +kernel
theorem dL_law_574 : decode cL_law 574 = .ok (.ifCond .eq 5, 3) := by decide +kernel
theorem dL_law_577 : decode cL_law 577 = .ok (.iconst 0, 1) := by decide +kernel
theorem dL_law_578 : decode cL_law 578 = .ok (.ireturn, 1) := by decide +kernel
theorem dL_law_579 : decode cL_law 579 = .ok (.goto 1039, 3) := by decide +kernel
theorem dL_law_582 : decode cL_law 582 = .ok (.aload_n 1, 1) := by decide +kernel
theorem dL_law_583 : decode cL_law 583 = .ok (.invokevirtual 114, 3) := by decide +kernel
theorem dL_law_586 : decode cL_law 586 = .ok (.aload_n 2, 1) := by decide +kernel
theorem dL_law_587 : decode cL_law 587 = .ok (.invokevirtual 117, 3) := by decide +kernel
theorem dL_law_590 : decode cL_law 590 = .ok (.if_icmp .eq 1028, 3) := by decide +kernel
theorem dL_law_593 : decode cL_law 593 = .ok (.iconst 0, 1) := by decide +kernel
theorem dL_law_594 : decode cL_law 594 = .ok (.ireturn, 1) := by decide +kernel
theorem dL_law_595 : decode cL_law 595 = .ok (.aload_n 1, 1) := by decide +kernel
theorem dL_law_596 : decode cL_law 596 = .ok (.aload_n 0, 1) := by decide +kernel
theorem dL_law_597 : decode cL_law 597 = .ok (.iload 4, 2) := by decide +kernel
theorem dL_law_599 : decode cL_law 599 = .ok (.iconst 1, 1) := by decide +kernel
theorem dL_law_600 : decode cL_law 600 = .ok (.iadd, 1) := by decide +kernel
theorem dL_law_601 : decode cL_law 601 = .ok (.iaload, 1) := by decide +kernel
theorem dL_law_602 : decode cL_law 602 = .ok (.aload_n 0, 1) := by decide +kernel
theorem dL_law_603 : decode cL_law 603 = .ok (.iload 4, 2) := by decide +kernel
theorem dL_law_605 : decode cL_law 605 = .ok (.iconst 2, 1) := by decide +kernel
theorem dL_law_606 : decode cL_law 606 = .ok (.iadd, 1) := by decide +kernel
theorem dL_law_607 : decode cL_law 607 = .ok (.iaload, 1) := by decide +kernel
theorem dL_law_608 : decode cL_law 608 = .ok (.aload_n 3, 1) := by decide +kernel
theorem dL_law_609 : decode cL_law 609 = .ok (.invokestatic 118, 3) := by decide +kernel
theorem dL_law_612 : decode cL_law 612 = .ok (.istore 5, 2) := by decide +kernel
theorem dL_law_614 : decode cL_law 614 = .ok (.aload_n 2, 1) := by decide +kernel
theorem dL_law_615 : decode cL_law 615 = .ok (.aload_n 0, 1) := by decide +kernel
theorem dL_law_616 : decode cL_law 616 = .ok (.iload 4, 2) := by decide +kernel
theorem dL_law_618 : decode cL_law 618 = .ok (.iconst 1, 1) := by decide +kernel
theorem dL_law_619 : decode cL_law 619 = .ok (.iadd, 1) := by decide +kernel
theorem dL_law_620 : decode cL_law 620 = .ok (.iaload, 1) := by decide +kernel
theorem dL_law_621 : decode cL_law 621 = .ok (.aload_n 0, 1) := by decide +kernel
theorem dL_law_622 : decode cL_law 622 = .ok (.iload 4, 2) := by decide +kernel
theorem dL_law_624 : decode cL_law 624 = .ok (.iconst 2, 1) := by decide +kernel
theorem dL_law_625 : decode cL_law 625 = .ok (.iadd, 1) := by decide +kernel
theorem dL_law_626 : decode cL_law 626 = .ok (.iaload, 1) := by decide +kernel
theorem dL_law_627 : decode cL_law 627 = .ok (.invokevirtual 120, 3) := by decide +kernel
theorem dL_law_630 : decode cL_law 630 = .ok (.istore 6, 2) := by decide +kernel
theorem dL_law_632 : decode cL_law 632 = .ok (.aload_n 2, 1) := by decide +kernel
theorem dL_law_633 : decode cL_law 633 = .ok (.invokevirtual 94, 3) := by decide +kernel
theorem dL_law_636 : decode cL_law 636 = .ok (.iload 5, 2) := by decide +kernel
theorem dL_law_638 : decode cL_law 638 = .ok (.if_icmp .eq 5, 3) := by decide +kernel
theorem dL_law_641 : decode cL_law 641 = .ok (.iconst 0, 1) := by decide +kernel
theorem dL_law_642 : decode cL_law 642 = .ok (.ireturn, 1) := by decide +kernel
theorem dL_law_643 : decode cL_law 643 = .ok (.iload 5, 2) := by decide +kernel
theorem dL_law_645 : decode cL_law 645 = .ok (.ifCond .ne 15, 3) := by decide +kernel
theorem dL_law_648 : decode cL_law 648 = .ok (.aload_n 3, 1) := by decide +kernel
theorem dL_law_649 : decode cL_law 649 = .ok (.iconst 0, 1) := by decide +kernel
theorem dL_law_650 : decode cL_law 650 = .ok (.laload, 1) := by decide +kernel
theorem dL_law_651 : decode cL_law 651 = .ok (.iload 6, 2) := by decide +kernel
theorem dL_law_653 : decode cL_law 653 = .ok (.i2l, 1) := by decide +kernel
theorem dL_law_654 : decode cL_law 654 = .ok (.lcmp, 1) := by decide +kernel
theorem dL_law_655 : decode cL_law 655 = .ok (.ifCond .eq 5, 3) := by decide +kernel
theorem dL_law_658 : decode cL_law 658 = .ok (.iconst 0, 1) := by decide +kernel
theorem dL_law_659 : decode cL_law 659 = .ok (.ireturn, 1) := by decide +kernel
theorem dL_law_660 : decode cL_law 660 = .ok (.goto 958, 3) := by decide +kernel
theorem dL_law_663 : decode cL_law 663 = .ok (.aload_n 1, 1) := by decide +kernel
theorem dL_law_664 : decode cL_law 664 = .ok (.aload_n 0, 1) := by decide +kernel
theorem dL_law_665 : decode cL_law 665 = .ok (.iload 4, 2) := by decide +kernel
theorem dL_law_667 : decode cL_law 667 = .ok (.iconst 1, 1) := by decide +kernel
theorem dL_law_668 : decode cL_law 668 = .ok (.iadd, 1) := by decide +kernel
theorem dL_law_669 : decode cL_law 669 = .ok (.iaload, 1) := by decide +kernel
theorem dL_law_670 : decode cL_law 670 = .ok (.aload_n 0, 1) := by decide +kernel
theorem dL_law_671 : decode cL_law 671 = .ok (.iload 4, 2) := by decide +kernel
theorem dL_law_673 : decode cL_law 673 = .ok (.iconst 2, 1) := by decide +kernel
theorem dL_law_674 : decode cL_law 674 = .ok (.iadd, 1) := by decide +kernel
theorem dL_law_675 : decode cL_law 675 = .ok (.iaload, 1) := by decide +kernel
theorem dL_law_676 : decode cL_law 676 = .ok (.aload_n 3, 1) := by decide +kernel
theorem dL_law_677 : decode cL_law 677 = .ok (.invokestatic 121, 3) := by decide +kernel
theorem dL_law_680 : decode cL_law 680 = .ok (.istore 5, 2) := by decide +kernel
theorem dL_law_682 : decode cL_law 682 = .ok (.aload_n 2, 1) := by decide +kernel
theorem dL_law_683 : decode cL_law 683 = .ok (.aload_n 0, 1) := by decide +kernel
theorem dL_law_684 : decode cL_law 684 = .ok (.iload 4, 2) := by decide +kernel
theorem dL_law_686 : decode cL_law 686 = .ok (.iconst 1, 1) := by decide +kernel
theorem dL_law_687 : decode cL_law 687 = .ok (.iadd, 1) := by decide +kernel
theorem dL_law_688 : decode cL_law 688 = .ok (.iaload, 1) := by decide +kernel
theorem dL_law_689 : decode cL_law 689 = .ok (.aload_n 0, 1) := by decide +kernel
theorem dL_law_690 : decode cL_law 690 = .ok (.iload 4, 2) := by decide +kernel
theorem dL_law_692 : decode cL_law 692 = .ok (.iconst 2, 1) := by decide +kernel
theorem dL_law_693 : decode cL_law 693 = .ok (.iadd, 1) := by decide +kernel
theorem dL_law_694 : decode cL_law 694 = .ok (.iaload, 1) := by decide +kernel
theorem dL_law_695 : decode cL_law 695 = .ok (.invokevirtual 123, 3) := by decide +kernel
theorem dL_law_698 : decode cL_law 698 = .ok (.istore 6, 2) := by decide +kernel
theorem dL_law_700 : decode cL_law 700 = .ok (.aload_n 2, 1) := by decide +kernel
theorem dL_law_701 : decode cL_law 701 = .ok (.invokevirtual 94, 3) := by decide +kernel
theorem dL_law_704 : decode cL_law 704 = .ok (.iload 5, 2) := by decide +kernel
theorem dL_law_706 : decode cL_law 706 = .ok (.if_icmp .eq 5, 3) := by decide +kernel
theorem dL_law_709 : decode cL_law 709 = .ok (.iconst 0, 1) := by decide +kernel
theorem dL_law_710 : decode cL_law 710 = .ok (.ireturn, 1) := by decide +kernel
theorem dL_law_711 : decode cL_law 711 = .ok (.iload 5, 2) := by decide +kernel
theorem dL_law_713 : decode cL_law 713 = .ok (.ifCond .ne 15, 3) := by decide +kernel
theorem dL_law_716 : decode cL_law 716 = .ok (.aload_n 3, 1) := by decide +kernel
theorem dL_law_717 : decode cL_law 717 = .ok (.iconst 0, 1) := by decide +kernel
theorem dL_law_718 : decode cL_law 718 = .ok (.laload, 1) := by decide +kernel
theorem dL_law_719 : decode cL_law 719 = .ok (.iload 6, 2) := by decide +kernel
theorem dL_law_721 : decode cL_law 721 = .ok (.i2l, 1) := by decide +kernel
theorem dL_law_722 : decode cL_law 722 = .ok (.lcmp, 1) := by decide +kernel
theorem dL_law_723 : decode cL_law 723 = .ok (.ifCond .eq 5, 3) := by decide +kernel
theorem dL_law_726 : decode cL_law 726 = .ok (.iconst 0, 1) := by decide +kernel
theorem dL_law_727 : decode cL_law 727 = .ok (.ireturn, 1) := by decide +kernel
theorem dL_law_728 : decode cL_law 728 = .ok (.goto 890, 3) := by decide +kernel
theorem dL_law_731 : decode cL_law 731 = .ok (.aload_n 1, 1) := by decide +kernel
theorem dL_law_732 : decode cL_law 732 = .ok (.aload_n 0, 1) := by decide +kernel
theorem dL_law_733 : decode cL_law 733 = .ok (.iload 4, 2) := by decide +kernel
theorem dL_law_735 : decode cL_law 735 = .ok (.iconst 1, 1) := by decide +kernel
theorem dL_law_736 : decode cL_law 736 = .ok (.iadd, 1) := by decide +kernel
theorem dL_law_737 : decode cL_law 737 = .ok (.iaload, 1) := by decide +kernel
theorem dL_law_738 : decode cL_law 738 = .ok (.aload_n 0, 1) := by decide +kernel
theorem dL_law_739 : decode cL_law 739 = .ok (.iload 4, 2) := by decide +kernel
theorem dL_law_741 : decode cL_law 741 = .ok (.iconst 2, 1) := by decide +kernel
theorem dL_law_742 : decode cL_law 742 = .ok (.iadd, 1) := by decide +kernel
theorem dL_law_743 : decode cL_law 743 = .ok (.iaload, 1) := by decide +kernel
theorem dL_law_744 : decode cL_law 744 = .ok (.aload_n 3, 1) := by decide +kernel
theorem dL_law_745 : decode cL_law 745 = .ok (.invokestatic 124, 3) := by decide +kernel
theorem dL_law_748 : decode cL_law 748 = .ok (.istore 5, 2) := by decide +kernel
theorem dL_law_750 : decode cL_law 750 = .ok (.aload_n 2, 1) := by decide +kernel
theorem dL_law_751 : decode cL_law 751 = .ok (.aload_n 0, 1) := by decide +kernel
theorem dL_law_752 : decode cL_law 752 = .ok (.iload 4, 2) := by decide +kernel
theorem dL_law_754 : decode cL_law 754 = .ok (.iconst 1, 1) := by decide +kernel
theorem dL_law_755 : decode cL_law 755 = .ok (.iadd, 1) := by decide +kernel
theorem dL_law_756 : decode cL_law 756 = .ok (.iaload, 1) := by decide +kernel
theorem dL_law_757 : decode cL_law 757 = .ok (.aload_n 0, 1) := by decide +kernel
theorem dL_law_758 : decode cL_law 758 = .ok (.iload 4, 2) := by decide +kernel
theorem dL_law_760 : decode cL_law 760 = .ok (.iconst 2, 1) := by decide +kernel
theorem dL_law_761 : decode cL_law 761 = .ok (.iadd, 1) := by decide +kernel
theorem dL_law_762 : decode cL_law 762 = .ok (.iaload, 1) := by decide +kernel
theorem dL_law_763 : decode cL_law 763 = .ok (.invokevirtual 126, 3) := by decide +kernel
theorem dL_law_766 : decode cL_law 766 = .ok (.istore 6, 2) := by decide +kernel
theorem dL_law_768 : decode cL_law 768 = .ok (.aload_n 2, 1) := by decide +kernel
theorem dL_law_769 : decode cL_law 769 = .ok (.invokevirtual 94, 3) := by decide +kernel
theorem dL_law_772 : decode cL_law 772 = .ok (.iload 5, 2) := by decide +kernel
theorem dL_law_774 : decode cL_law 774 = .ok (.if_icmp .eq 5, 3) := by decide +kernel
theorem dL_law_777 : decode cL_law 777 = .ok (.iconst 0, 1) := by decide +kernel
theorem dL_law_778 : decode cL_law 778 = .ok (.ireturn, 1) := by decide +kernel
theorem dL_law_779 : decode cL_law 779 = .ok (.iload 5, 2) := by decide +kernel
theorem dL_law_781 : decode cL_law 781 = .ok (.ifCond .ne 15, 3) := by decide +kernel
theorem dL_law_784 : decode cL_law 784 = .ok (.aload_n 3, 1) := by decide +kernel
theorem dL_law_785 : decode cL_law 785 = .ok (.iconst 0, 1) := by decide +kernel
theorem dL_law_786 : decode cL_law 786 = .ok (.laload, 1) := by decide +kernel
theorem dL_law_787 : decode cL_law 787 = .ok (.iload 6, 2) := by decide +kernel
theorem dL_law_789 : decode cL_law 789 = .ok (.i2l, 1) := by decide +kernel
theorem dL_law_790 : decode cL_law 790 = .ok (.lcmp, 1) := by decide +kernel
theorem dL_law_791 : decode cL_law 791 = .ok (.ifCond .eq 5, 3) := by decide +kernel
theorem dL_law_794 : decode cL_law 794 = .ok (.iconst 0, 1) := by decide +kernel
theorem dL_law_795 : decode cL_law 795 = .ok (.ireturn, 1) := by decide +kernel
theorem dL_law_796 : decode cL_law 796 = .ok (.goto 822, 3) := by decide +kernel
theorem dL_law_799 : decode cL_law 799 = .ok (.aload_n 1, 1) := by decide +kernel
theorem dL_law_800 : decode cL_law 800 = .ok (.aload_n 0, 1) := by decide +kernel
theorem dL_law_801 : decode cL_law 801 = .ok (.iload 4, 2) := by decide +kernel
theorem dL_law_803 : decode cL_law 803 = .ok (.iconst 1, 1) := by decide +kernel
theorem dL_law_804 : decode cL_law 804 = .ok (.iadd, 1) := by decide +kernel
theorem dL_law_805 : decode cL_law 805 = .ok (.iaload, 1) := by decide +kernel
theorem dL_law_806 : decode cL_law 806 = .ok (.aload_n 0, 1) := by decide +kernel
theorem dL_law_807 : decode cL_law 807 = .ok (.iload 4, 2) := by decide +kernel
theorem dL_law_809 : decode cL_law 809 = .ok (.iconst 2, 1) := by decide +kernel
theorem dL_law_810 : decode cL_law 810 = .ok (.iadd, 1) := by decide +kernel
theorem dL_law_811 : decode cL_law 811 = .ok (.iaload, 1) := by decide +kernel
theorem dL_law_812 : decode cL_law 812 = .ok (.aload_n 3, 1) := by decide +kernel
theorem dL_law_813 : decode cL_law 813 = .ok (.invokestatic 127, 3) := by decide +kernel
theorem dL_law_816 : decode cL_law 816 = .ok (.istore 5, 2) := by decide +kernel
theorem dL_law_818 : decode cL_law 818 = .ok (.aload_n 2, 1) := by decide +kernel
theorem dL_law_819 : decode cL_law 819 = .ok (.aload_n 0, 1) := by decide +kernel
theorem dL_law_820 : decode cL_law 820 = .ok (.iload 4, 2) := by decide +kernel
theorem dL_law_822 : decode cL_law 822 = .ok (.iconst 1, 1) := by decide +kernel
theorem dL_law_823 : decode cL_law 823 = .ok (.iadd, 1) := by decide +kernel
theorem dL_law_824 : decode cL_law 824 = .ok (.iaload, 1) := by decide +kernel
theorem dL_law_825 : decode cL_law 825 = .ok (.aload_n 0, 1) := by decide +kernel
theorem dL_law_826 : decode cL_law 826 = .ok (.iload 4, 2) := by decide +kernel
theorem dL_law_828 : decode cL_law 828 = .ok (.iconst 2, 1) := by decide +kernel
theorem dL_law_829 : decode cL_law 829 = .ok (.iadd, 1) := by decide +kernel
theorem dL_law_830 : decode cL_law 830 = .ok (.iaload, 1) := by decide +kernel
theorem dL_law_831 : decode cL_law 831 = .ok (.invokevirtual 129, 3) := by decide +kernel
theorem dL_law_834 : decode cL_law 834 = .ok (.istore 6, 2) := by decide +kernel
theorem dL_law_836 : decode cL_law 836 = .ok (.aload_n 2, 1) := by decide +kernel
theorem dL_law_837 : decode cL_law 837 = .ok (.invokevirtual 94, 3) := by decide +kernel
theorem dL_law_840 : decode cL_law 840 = .ok (.iload 5, 2) := by decide +kernel
theorem dL_law_842 : decode cL_law 842 = .ok (.if_icmp .eq 5, 3) := by decide +kernel
theorem dL_law_845 : decode cL_law 845 = .ok (.iconst 0, 1) := by decide +kernel
theorem dL_law_846 : decode cL_law 846 = .ok (.ireturn, 1) := by decide +kernel
theorem dL_law_847 : decode cL_law 847 = .ok (.iload 5, 2) := by decide +kernel
theorem dL_law_849 : decode cL_law 849 = .ok (.ifCond .ne 15, 3) := by decide +kernel
theorem dL_law_852 : decode cL_law 852 = .ok (.aload_n 3, 1) := by decide +kernel
theorem dL_law_853 : decode cL_law 853 = .ok (.iconst 0, 1) := by decide +kernel
theorem dL_law_854 : decode cL_law 854 = .ok (.laload, 1) := by decide +kernel
theorem dL_law_855 : decode cL_law 855 = .ok (.iload 6, 2) := by decide +kernel
theorem dL_law_857 : decode cL_law 857 = .ok (.i2l, 1) := by decide +kernel
theorem dL_law_858 : decode cL_law 858 = .ok (.lcmp, 1) := by decide +kernel
theorem dL_law_859 : decode cL_law 859 = .ok (.ifCond .eq 5, 3) := by decide +kernel
theorem dL_law_862 : decode cL_law 862 = .ok (.iconst 0, 1) := by decide +kernel
theorem dL_law_863 : decode cL_law 863 = .ok (.ireturn, 1) := by decide +kernel
theorem dL_law_864 : decode cL_law 864 = .ok (.goto 754, 3) := by decide +kernel
theorem dL_law_867 : decode cL_law 867 = .ok (.aload_n 1, 1) := by decide +kernel
theorem dL_law_868 : decode cL_law 868 = .ok (.aload_n 0, 1) := by decide +kernel
theorem dL_law_869 : decode cL_law 869 = .ok (.iload 4, 2) := by decide +kernel
theorem dL_law_871 : decode cL_law 871 = .ok (.iconst 1, 1) := by decide +kernel
theorem dL_law_872 : decode cL_law 872 = .ok (.iadd, 1) := by decide +kernel
theorem dL_law_873 : decode cL_law 873 = .ok (.iaload, 1) := by decide +kernel
theorem dL_law_874 : decode cL_law 874 = .ok (.aload_n 0, 1) := by decide +kernel
theorem dL_law_875 : decode cL_law 875 = .ok (.iload 4, 2) := by decide +kernel
theorem dL_law_877 : decode cL_law 877 = .ok (.iconst 2, 1) := by decide +kernel
theorem dL_law_878 : decode cL_law 878 = .ok (.iadd, 1) := by decide +kernel
theorem dL_law_879 : decode cL_law 879 = .ok (.iaload, 1) := by decide +kernel
theorem dL_law_880 : decode cL_law 880 = .ok (.aload_n 3, 1) := by decide +kernel
theorem dL_law_881 : decode cL_law 881 = .ok (.invokestatic 130, 3) := by decide +kernel
theorem dL_law_884 : decode cL_law 884 = .ok (.istore 5, 2) := by decide +kernel
theorem dL_law_886 : decode cL_law 886 = .ok (.aload_n 2, 1) := by decide +kernel
theorem dL_law_887 : decode cL_law 887 = .ok (.aload_n 0, 1) := by decide +kernel
theorem dL_law_888 : decode cL_law 888 = .ok (.iload 4, 2) := by decide +kernel
theorem dL_law_890 : decode cL_law 890 = .ok (.iconst 1, 1) := by decide +kernel
theorem dL_law_891 : decode cL_law 891 = .ok (.iadd, 1) := by decide +kernel
theorem dL_law_892 : decode cL_law 892 = .ok (.iaload, 1) := by decide +kernel
theorem dL_law_893 : decode cL_law 893 = .ok (.aload_n 0, 1) := by decide +kernel
theorem dL_law_894 : decode cL_law 894 = .ok (.iload 4, 2) := by decide +kernel
theorem dL_law_896 : decode cL_law 896 = .ok (.iconst 2, 1) := by decide +kernel
theorem dL_law_897 : decode cL_law 897 = .ok (.iadd, 1) := by decide +kernel
theorem dL_law_898 : decode cL_law 898 = .ok (.iaload, 1) := by decide +kernel
theorem dL_law_899 : decode cL_law 899 = .ok (.invokevirtual 132, 3) := by decide +kernel
theorem dL_law_902 : decode cL_law 902 = .ok (.istore 6, 2) := by decide +kernel
theorem dL_law_904 : decode cL_law 904 = .ok (.aload_n 2, 1) := by decide +kernel
theorem dL_law_905 : decode cL_law 905 = .ok (.invokevirtual 94, 3) := by decide +kernel
theorem dL_law_908 : decode cL_law 908 = .ok (.iload 5, 2) := by decide +kernel
theorem dL_law_910 : decode cL_law 910 = .ok (.if_icmp .eq 5, 3) := by decide +kernel
theorem dL_law_913 : decode cL_law 913 = .ok (.iconst 0, 1) := by decide +kernel
theorem dL_law_914 : decode cL_law 914 = .ok (.ireturn, 1) := by decide +kernel
theorem dL_law_915 : decode cL_law 915 = .ok (.iload 5, 2) := by decide +kernel
theorem dL_law_917 : decode cL_law 917 = .ok (.ifCond .ne 15, 3) := by decide +kernel
theorem dL_law_920 : decode cL_law 920 = .ok (.aload_n 3, 1) := by decide +kernel
theorem dL_law_921 : decode cL_law 921 = .ok (.iconst 0, 1) := by decide +kernel
theorem dL_law_922 : decode cL_law 922 = .ok (.laload, 1) := by decide +kernel
theorem dL_law_923 : decode cL_law 923 = .ok (.iload 6, 2) := by decide +kernel
theorem dL_law_925 : decode cL_law 925 = .ok (.i2l, 1) := by decide +kernel
theorem dL_law_926 : decode cL_law 926 = .ok (.lcmp, 1) := by decide +kernel
theorem dL_law_927 : decode cL_law 927 = .ok (.ifCond .eq 5, 3) := by decide +kernel
theorem dL_law_930 : decode cL_law 930 = .ok (.iconst 0, 1) := by decide +kernel
theorem dL_law_931 : decode cL_law 931 = .ok (.ireturn, 1) := by decide +kernel
theorem dL_law_932 : decode cL_law 932 = .ok (.goto 686, 3) := by decide +kernel
theorem dL_law_935 : decode cL_law 935 = .ok (.aload_n 1, 1) := by decide +kernel
theorem dL_law_936 : decode cL_law 936 = .ok (.aload_n 0, 1) := by decide +kernel
theorem dL_law_937 : decode cL_law 937 = .ok (.iload 4, 2) := by decide +kernel
theorem dL_law_939 : decode cL_law 939 = .ok (.iconst 1, 1) := by decide +kernel
end
section
theorem dL_law_940 : decode cL_law 940 = .ok (.iadd, 1) := by decide +kernel
theorem dL_law_941 : decode cL_law 941 = .ok (.iaload, 1) := by decide +kernel
theorem dL_law_942 : decode cL_law 942 = .ok (.aload_n 0, 1) := by decide +kernel
theorem dL_law_943 : decode cL_law 943 = .ok (.iload 4, 2) := by decide +kernel
theorem dL_law_945 : decode cL_law 945 = .ok (.iconst 2, 1) := by decide +kernel
theorem dL_law_946 : decode cL_law 946 = .ok (.iadd, 1) := by decide +kernel
theorem dL_law_947 : decode cL_law 947 = .ok (.iaload, 1) := by decide +kernel
theorem dL_law_948 : decode cL_law 948 = .ok (.aload_n 3, 1) := by decide +kernel
theorem dL_law_949 : decode cL_law 949 = .ok (.invokestatic 133, 3) := by decide +kernel
theorem dL_law_952 : decode cL_law 952 = .ok (.istore 5, 2) := by decide +kernel
theorem dL_law_954 : decode cL_law 954 = .ok (.aload_n 2, 1) := by decide +kernel
theorem dL_law_955 : decode cL_law 955 = .ok (.aload_n 0, 1) := by decide +kernel
theorem dL_law_956 : decode cL_law 956 = .ok (.iload 4, 2) := by decide +kernel
theorem dL_law_958 : decode cL_law 958 = .ok (.iconst 1, 1) := by decide +kernel
theorem dL_law_959 : decode cL_law 959 = .ok (.iadd, 1) := by decide +kernel
theorem dL_law_960 : decode cL_law 960 = .ok (.iaload, 1) := by decide +kernel
theorem dL_law_961 : decode cL_law 961 = .ok (.aload_n 0, 1) := by decide +kernel
theorem dL_law_962 : decode cL_law 962 = .ok (.iload 4, 2) := by decide +kernel
theorem dL_law_964 : decode cL_law 964 = .ok (.iconst 2, 1) := by decide +kernel
theorem dL_law_965 : decode cL_law 965 = .ok (.iadd, 1) := by decide +kernel
theorem dL_law_966 : decode cL_law 966 = .ok (.iaload, 1) := by decide +kernel
theorem dL_law_967 : decode cL_law 967 = .ok (.invokevirtual 135, 3) := by decide +kernel
theorem dL_law_970 : decode cL_law 970 = .ok (.istore 6, 2) := by decide +kernel
theorem dL_law_972 : decode cL_law 972 = .ok (.aload_n 2, 1) := by decide +kernel
theorem dL_law_973 : decode cL_law 973 = .ok (.invokevirtual 94, 3) := by decide +kernel
theorem dL_law_976 : decode cL_law 976 = .ok (.iload 5, 2) := by decide +kernel
theorem dL_law_978 : decode cL_law 978 = .ok (.if_icmp .eq 5, 3) := by decide +kernel
theorem dL_law_981 : decode cL_law 981 = .ok (.iconst 0, 1) := by decide +kernel
theorem dL_law_982 : decode cL_law 982 = .ok (.ireturn, 1) := by decide +kernel
theorem dL_law_983 : decode cL_law 983 = .ok (.iload 5, 2) := by decide +kernel
theorem dL_law_985 : decode cL_law 985 = .ok (.ifCond .ne 15, 3) := by decide +kernel
theorem dL_law_988 : decode cL_law 988 = .ok (.aload_n 3, 1) := by decide +kernel
theorem dL_law_989 : decode cL_law 989 = .ok (.iconst 0, 1) := by decide +kernel
theorem dL_law_990 : decode cL_law 990 = .ok (.laload, 1) := by decide +kernel
theorem dL_law_991 : decode cL_law 991 = .ok (.iload 6, 2) := by decide +kernel
theorem dL_law_993 : decode cL_law 993 = .ok (.i2l, 1) := by decide +kernel
theorem dL_law_994 : decode cL_law 994 = .ok (.lcmp, 1) := by decide +kernel
theorem dL_law_995 : decode cL_law 995 = .ok (.ifCond .eq 5, 3) := by decide +kernel
theorem dL_law_998 : decode cL_law 998 = .ok (.iconst 0, 1) := by decide +kernel
theorem dL_law_999 : decode cL_law 999 = .ok (.ireturn, 1) := by decide +kernel
theorem dL_law_1000 : decode cL_law 1000 = .ok (.goto 618, 3) := by decide +kernel
theorem dL_law_1003 : decode cL_law 1003 = .ok (.aload_n 1, 1) := by decide +kernel
theorem dL_law_1004 : decode cL_law 1004 = .ok (.aload_n 0, 1) := by decide +kernel
theorem dL_law_1005 : decode cL_law 1005 = .ok (.iload 4, 2) := by decide +kernel
theorem dL_law_1007 : decode cL_law 1007 = .ok (.iconst 1, 1) := by decide +kernel
theorem dL_law_1008 : decode cL_law 1008 = .ok (.iadd, 1) := by decide +kernel
theorem dL_law_1009 : decode cL_law 1009 = .ok (.iaload, 1) := by decide +kernel
theorem dL_law_1010 : decode cL_law 1010 = .ok (.aload_n 3, 1) := by decide +kernel
theorem dL_law_1011 : decode cL_law 1011 = .ok (.invokestatic 136, 3) := by decide +kernel
theorem dL_law_1014 : decode cL_law 1014 = .ok (.istore 5, 2) := by decide +kernel
theorem dL_law_1016 : decode cL_law 1016 = .ok (.aload_n 2, 1) := by decide +kernel
theorem dL_law_1017 : decode cL_law 1017 = .ok (.aload_n 0, 1) := by decide +kernel
theorem dL_law_1018 : decode cL_law 1018 = .ok (.iload 4, 2) := by decide +kernel
theorem dL_law_1020 : decode cL_law 1020 = .ok (.iconst 1, 1) := by decide +kernel
theorem dL_law_1021 : decode cL_law 1021 = .ok (.iadd, 1) := by decide +kernel
theorem dL_law_1022 : decode cL_law 1022 = .ok (.iaload, 1) := by decide +kernel
theorem dL_law_1023 : decode cL_law 1023 = .ok (.invokevirtual 138, 3) := by decide +kernel
theorem dL_law_1026 : decode cL_law 1026 = .ok (.istore 6, 2) := by decide +kernel
theorem dL_law_1028 : decode cL_law 1028 = .ok (.aload_n 2, 1) := by decide +kernel
theorem dL_law_1029 : decode cL_law 1029 = .ok (.invokevirtual 94, 3) := by decide +kernel
theorem dL_law_1032 : decode cL_law 1032 = .ok (.iload 5, 2) := by decide +kernel
theorem dL_law_1034 : decode cL_law 1034 = .ok (.if_icmp .eq 5, 3) := by decide +kernel
theorem dL_law_1037 : decode cL_law 1037 = .ok (.iconst 0, 1) := by decide +kernel
theorem dL_law_1038 : decode cL_law 1038 = .ok (.ireturn, 1) := by decide +kernel
theorem dL_law_1039 : decode cL_law 1039 = .ok (.iload 5, 2) := by decide +kernel
theorem dL_law_1041 : decode cL_law 1041 = .ok (.ifCond .ne 15, 3) := by decide +kernel
theorem dL_law_1044 : decode cL_law 1044 = .ok (.aload_n 3, 1) := by decide +kernel
theorem dL_law_1045 : decode cL_law 1045 = .ok (.iconst 0, 1) := by decide +kernel
theorem dL_law_1046 : decode cL_law 1046 = .ok (.laload, 1) := by decide +kernel
theorem dL_law_1047 : decode cL_law 1047 = .ok (.iload 6, 2) := by decide +kernel
theorem dL_law_1049 : decode cL_law 1049 = .ok (.i2l, 1) := by decide +kernel
theorem dL_law_1050 : decode cL_law 1050 = .ok (.lcmp, 1) := by decide +kernel
theorem dL_law_1051 : decode cL_law 1051 = .ok (.ifCond .eq 5, 3) := by decide +kernel
theorem dL_law_1054 : decode cL_law 1054 = .ok (.iconst 0, 1) := by decide +kernel
theorem dL_law_1055 : decode cL_law 1055 = .ok (.ireturn, 1) := by decide +kernel
theorem dL_law_1056 : decode cL_law 1056 = .ok (.goto 562, 3) := by decide +kernel
theorem dL_law_1059 : decode cL_law 1059 = .ok (.aload_n 1, 1) := by decide +kernel
theorem dL_law_1060 : decode cL_law 1060 = .ok (.invokevirtual 139, 3) := by decide +kernel
theorem dL_law_1063 : decode cL_law 1063 = .ok (.aload_n 2, 1) := by decide +kernel
theorem dL_law_1064 : decode cL_law 1064 = .ok (.invokevirtual 142, 3) := by decide +kernel
theorem dL_law_1067 : decode cL_law 1067 = .ok (.if_icmp .eq 551, 3) := by decide +kernel
theorem dL_law_1070 : decode cL_law 1070 = .ok (.iconst 0, 1) := by decide +kernel
theorem dL_law_1071 : decode cL_law 1071 = .ok (.ireturn, 1) := by decide +kernel
theorem dL_law_1072 : decode cL_law 1072 = .ok (.aload_n 1, 1) := by decide +kernel
theorem dL_law_1073 : decode cL_law 1073 = .ok (.aload_n 0, 1) := by decide +kernel
theorem dL_law_1074 : decode cL_law 1074 = .ok (.iload 4, 2) := by decide +kernel
theorem dL_law_1076 : decode cL_law 1076 = .ok (.iconst 1, 1) := by decide +kernel
theorem dL_law_1077 : decode cL_law 1077 = .ok (.iadd, 1) := by decide +kernel
theorem dL_law_1078 : decode cL_law 1078 = .ok (.iaload, 1) := by decide +kernel
theorem dL_law_1079 : decode cL_law 1079 = .ok (.aload_n 0, 1) := by decide +kernel
theorem dL_law_1080 : decode cL_law 1080 = .ok (.iload 4, 2) := by decide +kernel
theorem dL_law_1082 : decode cL_law 1082 = .ok (.iconst 2, 1) := by decide +kernel
theorem dL_law_1083 : decode cL_law 1083 = .ok (.iadd, 1) := by decide +kernel
theorem dL_law_1084 : decode cL_law 1084 = .ok (.iaload, 1) := by decide +kernel
theorem dL_law_1085 : decode cL_law 1085 = .ok (.aload_n 3, 1) := by decide +kernel
theorem dL_law_1086 : decode cL_law 1086 = .ok (.invokestatic 143, 3) := by decide +kernel
theorem dL_law_1089 : decode cL_law 1089 = .ok (.istore 5, 2) := by decide +kernel
theorem dL_law_1091 : decode cL_law 1091 = .ok (.aload_n 2, 1) := by decide +kernel
theorem dL_law_1092 : decode cL_law 1092 = .ok (.aload_n 0, 1) := by decide +kernel
theorem dL_law_1093 : decode cL_law 1093 = .ok (.iload 4, 2) := by decide +kernel
theorem dL_law_1095 : decode cL_law 1095 = .ok (.iconst 1, 1) := by decide +kernel
theorem dL_law_1096 : decode cL_law 1096 = .ok (.iadd, 1) := by decide +kernel
theorem dL_law_1097 : decode cL_law 1097 = .ok (.iaload, 1) := by decide +kernel
theorem dL_law_1098 : decode cL_law 1098 = .ok (.aload_n 0, 1) := by decide +kernel
theorem dL_law_1099 : decode cL_law 1099 = .ok (.iload 4, 2) := by decide +kernel
theorem dL_law_1101 : decode cL_law 1101 = .ok (.iconst 2, 1) := by decide +kernel
theorem dL_law_1102 : decode cL_law 1102 = .ok (.iadd, 1) := by decide +kernel
theorem dL_law_1103 : decode cL_law 1103 = .ok (.iaload, 1) := by decide +kernel
theorem dL_law_1104 : decode cL_law 1104 = .ok (.invokevirtual 145, 3) := by decide +kernel
theorem dL_law_1107 : decode cL_law 1107 = .ok (.istore 6, 2) := by decide +kernel
theorem dL_law_1109 : decode cL_law 1109 = .ok (.aload_n 2, 1) := by decide +kernel
theorem dL_law_1110 : decode cL_law 1110 = .ok (.invokevirtual 94, 3) := by decide +kernel
theorem dL_law_1113 : decode cL_law 1113 = .ok (.iload 5, 2) := by decide +kernel
theorem dL_law_1115 : decode cL_law 1115 = .ok (.if_icmp .eq 5, 3) := by decide +kernel
theorem dL_law_1118 : decode cL_law 1118 = .ok (.iconst 0, 1) := by decide +kernel
theorem dL_law_1119 : decode cL_law 1119 = .ok (.ireturn, 1) := by decide +kernel
theorem dL_law_1120 : decode cL_law 1120 = .ok (.iload 5, 2) := by decide +kernel
theorem dL_law_1122 : decode cL_law 1122 = .ok (.ifCond .ne 15, 3) := by decide +kernel
theorem dL_law_1125 : decode cL_law 1125 = .ok (.aload_n 3, 1) := by decide +kernel
theorem dL_law_1126 : decode cL_law 1126 = .ok (.iconst 0, 1) := by decide +kernel
theorem dL_law_1127 : decode cL_law 1127 = .ok (.laload, 1) := by decide +kernel
theorem dL_law_1128 : decode cL_law 1128 = .ok (.iload 6, 2) := by decide +kernel
theorem dL_law_1130 : decode cL_law 1130 = .ok (.i2l, 1) := by decide +kernel
theorem dL_law_1131 : decode cL_law 1131 = .ok (.lcmp, 1) := by decide +kernel
theorem dL_law_1132 : decode cL_law 1132 = .ok (.ifCond .eq 5, 3) := by decide +kernel
theorem dL_law_1135 : decode cL_law 1135 = .ok (.iconst 0, 1) := by decide +kernel
theorem dL_law_1136 : decode cL_law 1136 = .ok (.ireturn, 1) := by decide +kernel
theorem dL_law_1137 : decode cL_law 1137 = .ok (.goto 481, 3) := by decide +kernel
theorem dL_law_1140 : decode cL_law 1140 = .ok (.aload_n 1, 1) := by decide +kernel
theorem dL_law_1141 : decode cL_law 1141 = .ok (.aload_n 0, 1) := by decide +kernel
theorem dL_law_1142 : decode cL_law 1142 = .ok (.iload 4, 2) := by decide +kernel
theorem dL_law_1144 : decode cL_law 1144 = .ok (.iconst 1, 1) := by decide +kernel
theorem dL_law_1145 : decode cL_law 1145 = .ok (.iadd, 1) := by decide +kernel
theorem dL_law_1146 : decode cL_law 1146 = .ok (.iaload, 1) := by decide +kernel
theorem dL_law_1147 : decode cL_law 1147 = .ok (.aload_n 0, 1) := by decide +kernel
theorem dL_law_1148 : decode cL_law 1148 = .ok (.iload 4, 2) := by decide +kernel
theorem dL_law_1150 : decode cL_law 1150 = .ok (.iconst 2, 1) := by decide +kernel
theorem dL_law_1151 : decode cL_law 1151 = .ok (.iadd, 1) := by decide +kernel
theorem dL_law_1152 : decode cL_law 1152 = .ok (.iaload, 1) := by decide +kernel
theorem dL_law_1153 : decode cL_law 1153 = .ok (.aload_n 3, 1) := by decide +kernel
theorem dL_law_1154 : decode cL_law 1154 = .ok (.invokestatic 146, 3) := by decide +kernel
theorem dL_law_1157 : decode cL_law 1157 = .ok (.istore 5, 2) := by decide +kernel
theorem dL_law_1159 : decode cL_law 1159 = .ok (.aload_n 2, 1) := by decide +kernel
theorem dL_law_1160 : decode cL_law 1160 = .ok (.aload_n 0, 1) := by decide +kernel
theorem dL_law_1161 : decode cL_law 1161 = .ok (.iload 4, 2) := by decide +kernel
theorem dL_law_1163 : decode cL_law 1163 = .ok (.iconst 1, 1) := by decide +kernel
theorem dL_law_1164 : decode cL_law 1164 = .ok (.iadd, 1) := by decide +kernel
theorem dL_law_1165 : decode cL_law 1165 = .ok (.iaload, 1) := by decide +kernel
theorem dL_law_1166 : decode cL_law 1166 = .ok (.aload_n 0, 1) := by decide +kernel
theorem dL_law_1167 : decode cL_law 1167 = .ok (.iload 4, 2) := by decide +kernel
theorem dL_law_1169 : decode cL_law 1169 = .ok (.iconst 2, 1) := by decide +kernel
theorem dL_law_1170 : decode cL_law 1170 = .ok (.iadd, 1) := by decide +kernel
theorem dL_law_1171 : decode cL_law 1171 = .ok (.iaload, 1) := by decide +kernel
theorem dL_law_1172 : decode cL_law 1172 = .ok (.invokevirtual 148, 3) := by decide +kernel
theorem dL_law_1175 : decode cL_law 1175 = .ok (.istore 6, 2) := by decide +kernel
theorem dL_law_1177 : decode cL_law 1177 = .ok (.aload_n 2, 1) := by decide +kernel
theorem dL_law_1178 : decode cL_law 1178 = .ok (.invokevirtual 94, 3) := by decide +kernel
theorem dL_law_1181 : decode cL_law 1181 = .ok (.iload 5, 2) := by decide +kernel
theorem dL_law_1183 : decode cL_law 1183 = .ok (.if_icmp .eq 5, 3) := by decide +kernel
theorem dL_law_1186 : decode cL_law 1186 = .ok (.iconst 0, 1) := by decide +kernel
theorem dL_law_1187 : decode cL_law 1187 = .ok (.ireturn, 1) := by decide +kernel
theorem dL_law_1188 : decode cL_law 1188 = .ok (.iload 5, 2) := by decide +kernel
theorem dL_law_1190 : decode cL_law 1190 = .ok (.ifCond .ne 15, 3) := by decide +kernel
theorem dL_law_1193 : decode cL_law 1193 = .ok (.aload_n 3, 1) := by decide +kernel
theorem dL_law_1194 : decode cL_law 1194 = .ok (.iconst 0, 1) := by decide +kernel
theorem dL_law_1195 : decode cL_law 1195 = .ok (.laload, 1) := by decide +kernel
theorem dL_law_1196 : decode cL_law 1196 = .ok (.iload 6, 2) := by decide +kernel
theorem dL_law_1198 : decode cL_law 1198 = .ok (.i2l, 1) := by decide +kernel
theorem dL_law_1199 : decode cL_law 1199 = .ok (.lcmp, 1) := by decide +kernel
theorem dL_law_1200 : decode cL_law 1200 = .ok (.ifCond .eq 5, 3) := by decide +kernel
theorem dL_law_1203 : decode cL_law 1203 = .ok (.iconst 0, 1) := by decide +kernel
theorem dL_law_1204 : decode cL_law 1204 = .ok (.ireturn, 1) := by decide +kernel
theorem dL_law_1205 : decode cL_law 1205 = .ok (.goto 413, 3) := by decide +kernel
theorem dL_law_1208 : decode cL_law 1208 = .ok (.aload_n 1, 1) := by decide +kernel
theorem dL_law_1209 : decode cL_law 1209 = .ok (.aload_n 0, 1) := by decide +kernel
theorem dL_law_1210 : decode cL_law 1210 = .ok (.iload 4, 2) := by decide +kernel
theorem dL_law_1212 : decode cL_law 1212 = .ok (.iconst 1, 1) := by decide +kernel
theorem dL_law_1213 : decode cL_law 1213 = .ok (.iadd, 1) := by decide +kernel
theorem dL_law_1214 : decode cL_law 1214 = .ok (.iaload, 1) := by decide +kernel
theorem dL_law_1215 : decode cL_law 1215 = .ok (.aload_n 0, 1) := by decide +kernel
theorem dL_law_1216 : decode cL_law 1216 = .ok (.iload 4, 2) := by decide +kernel
theorem dL_law_1218 : decode cL_law 1218 = .ok (.iconst 2, 1) := by decide +kernel
theorem dL_law_1219 : decode cL_law 1219 = .ok (.iadd, 1) := by decide +kernel
theorem dL_law_1220 : decode cL_law 1220 = .ok (.iaload, 1) := by decide +kernel
theorem dL_law_1221 : decode cL_law 1221 = .ok (.aload_n 3, 1) := by decide +kernel
theorem dL_law_1222 : decode cL_law 1222 = .ok (.invokestatic 149, 3) := by decide +kernel
theorem dL_law_1225 : decode cL_law 1225 = .ok (.istore 5, 2) := by decide +kernel
theorem dL_law_1227 : decode cL_law 1227 = .ok (.aload_n 2, 1) := by decide +kernel
theorem dL_law_1228 : decode cL_law 1228 = .ok (.aload_n 0, 1) := by decide +kernel
theorem dL_law_1229 : decode cL_law 1229 = .ok (.iload 4, 2) := by decide +kernel
theorem dL_law_1231 : decode cL_law 1231 = .ok (.iconst 1, 1) := by decide +kernel
theorem dL_law_1232 : decode cL_law 1232 = .ok (.iadd, 1) := by decide +kernel
theorem dL_law_1233 : decode cL_law 1233 = .ok (.iaload, 1) := by decide +kernel
theorem dL_law_1234 : decode cL_law 1234 = .ok (.aload_n 0, 1) := by decide +kernel
theorem dL_law_1235 : decode cL_law 1235 = .ok (.iload 4, 2) := by decide +kernel
theorem dL_law_1237 : decode cL_law 1237 = .ok (.iconst 2, 1) := by decide +kernel
theorem dL_law_1238 : decode cL_law 1238 = .ok (.iadd, 1) := by decide +kernel
theorem dL_law_1239 : decode cL_law 1239 = .ok (.iaload, 1) := by decide +kernel
theorem dL_law_1240 : decode cL_law 1240 = .ok (.invokevirtual 151, 3) := by decide +kernel
theorem dL_law_1243 : decode cL_law 1243 = .ok (.istore 6, 2) := by decide +kernel
theorem dL_law_1245 : decode cL_law 1245 = .ok (.aload_n 2, 1) := by decide +kernel
theorem dL_law_1246 : decode cL_law 1246 = .ok (.invokevirtual 94, 3) := by decide +kernel
theorem dL_law_1249 : decode cL_law 1249 = .ok (.iload 5, 2) := by decide +kernel
theorem dL_law_1251 : decode cL_law 1251 = .ok (.if_icmp .eq 5, 3) := by decide +kernel
theorem dL_law_1254 : decode cL_law 1254 = .ok (.iconst 0, 1) := by decide +kernel
theorem dL_law_1255 : decode cL_law 1255 = .ok (.ireturn, 1) := by decide +kernel
theorem dL_law_1256 : decode cL_law 1256 = .ok (.iload 5, 2) := by decide +kernel
theorem dL_law_1258 : decode cL_law 1258 = .ok (.ifCond .ne 15, 3) := by decide +kernel
theorem dL_law_1261 : decode cL_law 1261 = .ok (.aload_n 3, 1) := by decide +kernel
theorem dL_law_1262 : decode cL_law 1262 = .ok (.iconst 0, 1) := by decide +kernel
theorem dL_law_1263 : decode cL_law 1263 = .ok (.laload, 1) := by decide +kernel
theorem dL_law_1264 : decode cL_law 1264 = .ok (.iload 6, 2) := by decide +kernel
theorem dL_law_1266 : decode cL_law 1266 = .ok (.i2l, 1) := by decide +kernel
theorem dL_law_1267 : decode cL_law 1267 = .ok (.lcmp, 1) := by decide +kernel
theorem dL_law_1268 : decode cL_law 1268 = .ok (.ifCond .eq 5, 3) := by decide +kernel
theorem dL_law_1271 : decode cL_law 1271 = .ok (.iconst 0, 1) := by decide +kernel
theorem dL_law_1272 : decode cL_law 1272 = .ok (.ireturn, 1) := by decide +kernel
theorem dL_law_1273 : decode cL_law 1273 = .ok (.goto 345, 3) := by decide +kernel
theorem dL_law_1276 : decode cL_law 1276 = .ok (.aload_n 1, 1) := by decide +kernel
theorem dL_law_1277 : decode cL_law 1277 = .ok (.aload_n 0, 1) := by decide +kernel
theorem dL_law_1278 : decode cL_law 1278 = .ok (.iload 4, 2) := by decide +kernel
theorem dL_law_1280 : decode cL_law 1280 = .ok (.iconst 1, 1) := by decide +kernel
theorem dL_law_1281 : decode cL_law 1281 = .ok (.iadd, 1) := by decide +kernel
theorem dL_law_1282 : decode cL_law 1282 = .ok (.iaload, 1) := by decide +kernel
theorem dL_law_1283 : decode cL_law 1283 = .ok (.aload_n 0, 1) := by decide +kernel
theorem dL_law_1284 : decode cL_law 1284 = .ok (.iload 4, 2) := by decide +kernel
theorem dL_law_1286 : decode cL_law 1286 = .ok (.iconst 2, 1) := by decide +kernel
theorem dL_law_1287 : decode cL_law 1287 = .ok (.iadd, 1) := by decide +kernel
theorem dL_law_1288 : decode cL_law 1288 = .ok (.iaload, 1) := by decide +kernel
theorem dL_law_1289 : decode cL_law 1289 = .ok (.aload_n 3, 1) := by decide +kernel
theorem dL_law_1290 : decode cL_law 1290 = .ok (.invokestatic 152, 3) := by decide +kernel
theorem dL_law_1293 : decode cL_law 1293 = .ok (.istore 5, 2) := by decide +kernel
theorem dL_law_1295 : decode cL_law 1295 = .ok (.aload_n 2, 1) := by decide +kernel
theorem dL_law_1296 : decode cL_law 1296 = .ok (.aload_n 0, 1) := by decide +kernel
theorem dL_law_1297 : decode cL_law 1297 = .ok (.iload 4, 2) := by decide +kernel
theorem dL_law_1299 : decode cL_law 1299 = .ok (.iconst 1, 1) := by decide +kernel
theorem dL_law_1300 : decode cL_law 1300 = .ok (.iadd, 1) := by decide +kernel
theorem dL_law_1301 : decode cL_law 1301 = .ok (.iaload, 1) := by decide +kernel
theorem dL_law_1302 : decode cL_law 1302 = .ok (.aload_n 0, 1) := by decide +kernel
theorem dL_law_1303 : decode cL_law 1303 = .ok (.iload 4, 2) := by decide +kernel
theorem dL_law_1305 : decode cL_law 1305 = .ok (.iconst 2, 1) := by decide +kernel
theorem dL_law_1306 : decode cL_law 1306 = .ok (.iadd, 1) := by decide +kernel
theorem dL_law_1307 : decode cL_law 1307 = .ok (.iaload, 1) := by decide +kernel
theorem dL_law_1308 : decode cL_law 1308 = .ok (.invokevirtual 154, 3) := by decide +kernel
theorem dL_law_1311 : decode cL_law 1311 = .ok (.istore 6, 2) := by decide +kernel
theorem dL_law_1313 : decode cL_law 1313 = .ok (.aload_n 2, 1) := by decide +kernel
theorem dL_law_1314 : decode cL_law 1314 = .ok (.invokevirtual 94, 3) := by decide +kernel
theorem dL_law_1317 : decode cL_law 1317 = .ok (.iload 5, 2) := by decide +kernel
theorem dL_law_1319 : decode cL_law 1319 = .ok (.if_icmp .eq 5, 3) := by decide +kernel
theorem dL_law_1322 : decode cL_law 1322 = .ok (.iconst 0, 1) := by decide +kernel
theorem dL_law_1323 : decode cL_law 1323 = .ok (.ireturn, 1) := by decide +kernel
theorem dL_law_1324 : decode cL_law 1324 = .ok (.iload 5, 2) := by decide +kernel
theorem dL_law_1326 : decode cL_law 1326 = .ok (.ifCond .ne 15, 3) := by decide +kernel
theorem dL_law_1329 : decode cL_law 1329 = .ok (.aload_n 3, 1) := by decide +kernel
theorem dL_law_1330 : decode cL_law 1330 = .ok (.iconst 0, 1) := by decide +kernel
theorem dL_law_1331 : decode cL_law 1331 = .ok (.laload, 1) := by decide +kernel
theorem dL_law_1332 : decode cL_law 1332 = .ok (.iload 6, 2) := by decide +kernel
theorem dL_law_1334 : decode cL_law 1334 = .ok (.i2l, 1) := by decide +kernel
theorem dL_law_1335 : decode cL_law 1335 = .ok (.lcmp, 1) := by decide +kernel
theorem dL_law_1336 : decode cL_law 1336 = .ok (.ifCond .eq 5, 3) := by decide +kernel
theorem dL_law_1339 : decode cL_law 1339 = .ok (.iconst 0, 1) := by decide +kernel
theorem dL_law_1340 : decode cL_law 1340 = .ok (.ireturn, 1) := by decide +kernel
theorem dL_law_1341 : decode cL_law 1341 = .ok (.goto 277, 3) := by decide +kernel
theorem dL_law_1344 : decode cL_law 1344 = .ok (.aload_n 1, 1) := by decide +kernel
theorem dL_law_1345 : decode cL_law 1345 = .ok (.aload_n 0, 1) := by decide +kernel
theorem dL_law_1346 : decode cL_law 1346 = .ok (.iload 4, 2) := by decide +kernel
theorem dL_law_1348 : decode cL_law 1348 = .ok (.iconst 1, 1) := by decide +kernel
theorem dL_law_1349 : decode cL_law 1349 = .ok (.iadd, 1) := by decide +kernel
theorem dL_law_1350 : decode cL_law 1350 = .ok (.iaload, 1) := by decide +kernel
theorem dL_law_1351 : decode cL_law 1351 = .ok (.aload_n 0, 1) := by decide +kernel
theorem dL_law_1352 : decode cL_law 1352 = .ok (.iload 4, 2) := by decide +kernel
theorem dL_law_1354 : decode cL_law 1354 = .ok (.iconst 2, 1) := by decide +kernel
theorem dL_law_1355 : decode cL_law 1355 = .ok (.iadd, 1) := by decide +kernel
theorem dL_law_1356 : decode cL_law 1356 = .ok (.iaload, 1) := by decide +kernel
theorem dL_law_1357 : decode cL_law 1357 = .ok (.aload_n 0, 1) := by decide +kernel
theorem dL_law_1358 : decode cL_law 1358 = .ok (.iload 4, 2) := by decide +kernel
theorem dL_law_1360 : decode cL_law 1360 = .ok (.iconst 3, 1) := by decide +kernel
theorem dL_law_1361 : decode cL_law 1361 = .ok (.iadd, 1) := by decide +kernel
theorem dL_law_1362 : decode cL_law 1362 = .ok (.iaload, 1) := by decide +kernel
theorem dL_law_1363 : decode cL_law 1363 = .ok (.aload_n 3, 1) := by decide +kernel
theorem dL_law_1364 : decode cL_law 1364 = .ok (.invokestatic 155, 3) := by decide +kernel
theorem dL_law_1367 : decode cL_law 1367 = .ok (.istore 5, 2) := by decide +kernel
theorem dL_law_1369 : decode cL_law 1369 = .ok (.aload_n 2, 1) := by decide +kernel
theorem dL_law_1370 : decode cL_law 1370 = .ok (.aload_n 0, 1) := by decide +kernel
theorem dL_law_1371 : decode cL_law 1371 = .ok (.iload 4, 2) := by decide +kernel
theorem dL_law_1373 : decode cL_law 1373 = .ok (.iconst 1, 1) := by decide +kernel
theorem dL_law_1374 : decode cL_law 1374 = .ok (.iadd, 1) := by decide +kernel
theorem dL_law_1375 : decode cL_law 1375 = .ok (.iaload, 1) := by decide +kernel
theorem dL_law_1376 : decode cL_law 1376 = .ok (.aload_n 0, 1) := by decide +kernel
theorem dL_law_1377 : decode cL_law 1377 = .ok (.iload 4, 2) := by decide +kernel
theorem dL_law_1379 : decode cL_law 1379 = .ok (.iconst 2, 1) := by decide +kernel
theorem dL_law_1380 : decode cL_law 1380 = .ok (.iadd, 1) := by decide +kernel
theorem dL_law_1381 : decode cL_law 1381 = .ok (.iaload, 1) := by decide +kernel
theorem dL_law_1382 : decode cL_law 1382 = .ok (.aload_n 0, 1) := by decide +kernel
theorem dL_law_1383 : decode cL_law 1383 = .ok (.iload 4, 2) := by decide +kernel
theorem dL_law_1385 : decode cL_law 1385 = .ok (.iconst 3, 1) := by decide +kernel
theorem dL_law_1386 : decode cL_law 1386 = .ok (.iadd, 1) := by decide +kernel
theorem dL_law_1387 : decode cL_law 1387 = .ok (.iaload, 1) := by decide +kernel
theorem dL_law_1388 : decode cL_law 1388 = .ok (.invokevirtual 158, 3) := by decide +kernel
theorem dL_law_1391 : decode cL_law 1391 = .ok (.istore 6, 2) := by decide +kernel
theorem dL_law_1393 : decode cL_law 1393 = .ok (.aload_n 2, 1) := by decide +kernel
theorem dL_law_1394 : decode cL_law 1394 = .ok (.invokevirtual 94, 3) := by decide +kernel
theorem dL_law_1397 : decode cL_law 1397 = .ok (.iload 5, 2) := by decide +kernel
theorem dL_law_1399 : decode cL_law 1399 = .ok (.if_icmp .eq 5, 3) := by decide +kernel
theorem dL_law_1402 : decode cL_law 1402 = .ok (.iconst 0, 1) := by decide +kernel
theorem dL_law_1403 : decode cL_law 1403 = .ok (.ireturn, 1) := by decide +kernel
theorem dL_law_1404 : decode cL_law 1404 = .ok (.iload 5, 2) := by decide +kernel
theorem dL_law_1406 : decode cL_law 1406 = .ok (.ifCond .ne 15, 3) := by decide +kernel
theorem dL_law_1409 : decode cL_law 1409 = .ok (.aload_n 3, 1) := by decide +kernel
theorem dL_law_1410 : decode cL_law 1410 = .ok (.iconst 0, 1) := by decide +kernel
theorem dL_law_1411 : decode cL_law 1411 = .ok (.laload, 1) := by decide +kernel
theorem dL_law_1412 : decode cL_law 1412 = .ok (.iload 6, 2) := by decide +kernel
theorem dL_law_1414 : decode cL_law 1414 = .ok (.i2l, 1) := by decide +kernel
theorem dL_law_1415 : decode cL_law 1415 = .ok (.lcmp, 1) := by decide +kernel
theorem dL_law_1416 : decode cL_law 1416 = .ok (.ifCond .eq 5, 3) := by decide +kernel
theorem dL_law_1419 : decode cL_law 1419 = .ok (.iconst 0, 1) := by decide +kernel
theorem dL_law_1420 : decode cL_law 1420 = .ok (.ireturn, 1) := by decide +kernel
theorem dL_law_1421 : decode cL_law 1421 = .ok (.goto 197, 3) := by decide +kernel
theorem dL_law_1424 : decode cL_law 1424 = .ok (.aload_n 1, 1) := by decide +kernel
theorem dL_law_1425 : decode cL_law 1425 = .ok (.aload_n 0, 1) := by decide +kernel
theorem dL_law_1426 : decode cL_law 1426 = .ok (.iload 4, 2) := by decide +kernel
theorem dL_law_1428 : decode cL_law 1428 = .ok (.iconst 1, 1) := by decide +kernel
theorem dL_law_1429 : decode cL_law 1429 = .ok (.iadd, 1) := by decide +kernel
theorem dL_law_1430 : decode cL_law 1430 = .ok (.iaload, 1) := by decide +kernel
theorem dL_law_1431 : decode cL_law 1431 = .ok (.aload_n 0, 1) := by decide +kernel
theorem dL_law_1432 : decode cL_law 1432 = .ok (.iload 4, 2) := by decide +kernel
theorem dL_law_1434 : decode cL_law 1434 = .ok (.iconst 2, 1) := by decide +kernel
theorem dL_law_1435 : decode cL_law 1435 = .ok (.iadd, 1) := by decide +kernel
theorem dL_law_1436 : decode cL_law 1436 = .ok (.iaload, 1) := by decide +kernel
theorem dL_law_1437 : decode cL_law 1437 = .ok (.aload_n 0, 1) := by decide +kernel
theorem dL_law_1438 : decode cL_law 1438 = .ok (.iload 4, 2) := by decide +kernel
theorem dL_law_1440 : decode cL_law 1440 = .ok (.iconst 3, 1) := by decide +kernel
theorem dL_law_1441 : decode cL_law 1441 = .ok (.iadd, 1) := by decide +kernel
theorem dL_law_1442 : decode cL_law 1442 = .ok (.iaload, 1) := by decide +kernel
theorem dL_law_1443 : decode cL_law 1443 = .ok (.aload_n 3, 1) := by decide +kernel
theorem dL_law_1444 : decode cL_law 1444 = .ok (.invokestatic 159, 3) := by decide +kernel
theorem dL_law_1447 : decode cL_law 1447 = .ok (.istore 5, 2) := by decide +kernel
theorem dL_law_1449 : decode cL_law 1449 = .ok (.aload_n 2, 1) := by decide +kernel
theorem dL_law_1450 : decode cL_law 1450 = .ok (.aload_n 0, 1) := by decide +kernel
theorem dL_law_1451 : decode cL_law 1451 = .ok (.iload 4, 2) := by decide +kernel
theorem dL_law_1453 : decode cL_law 1453 = .ok (.iconst 1, 1) := by decide +kernel
theorem dL_law_1454 : decode cL_law 1454 = .ok (.iadd, 1) := by decide +kernel
theorem dL_law_1455 : decode cL_law 1455 = .ok (.iaload, 1) := by decide +kernel
theorem dL_law_1456 : decode cL_law 1456 = .ok (.aload_n 0, 1) := by decide +kernel
theorem dL_law_1457 : decode cL_law 1457 = .ok (.iload 4, 2) := by decide +kernel
theorem dL_law_1459 : decode cL_law 1459 = .ok (.iconst 2, 1) := by decide +kernel
theorem dL_law_1460 : decode cL_law 1460 = .ok (.iadd, 1) := by decide +kernel
theorem dL_law_1461 : decode cL_law 1461 = .ok (.iaload, 1) := by decide +kernel
theorem dL_law_1462 : decode cL_law 1462 = .ok (.aload_n 0, 1) := by decide +kernel
theorem dL_law_1463 : decode cL_law 1463 = .ok (.iload 4, 2) := by decide +kernel
theorem dL_law_1465 : decode cL_law 1465 = .ok (.iconst 3, 1) := by decide +kernel
theorem dL_law_1466 : decode cL_law 1466 = .ok (.iadd, 1) := by decide +kernel
theorem dL_law_1467 : decode cL_law 1467 = .ok (.iaload, 1) := by decide +kernel
theorem dL_law_1468 : decode cL_law 1468 = .ok (.invokevirtual 161, 3) := by decide +kernel
theorem dL_law_1471 : decode cL_law 1471 = .ok (.istore 6, 2) := by decide +kernel
theorem dL_law_1473 : decode cL_law 1473 = .ok (.aload_n 2, 1) := by decide +kernel
theorem dL_law_1474 : decode cL_law 1474 = .ok (.invokevirtual 94, 3) := by decide +kernel
theorem dL_law_1477 : decode cL_law 1477 = .ok (.iload 5, 2) := by decide +kernel
theorem dL_law_1479 : decode cL_law 1479 = .ok (.if_icmp .eq 5, 3) := by decide +kernel
theorem dL_law_1482 : decode cL_law 1482 = .ok (.iconst 0, 1) := by decide +kernel
theorem dL_law_1483 : decode cL_law 1483 = .ok (.ireturn, 1) := by decide +kernel
theorem dL_law_1484 : decode cL_law 1484 = .ok (.iload 5, 2) := by decide +kernel
theorem dL_law_1486 : decode cL_law 1486 = .ok (.ifCond .ne 15, 3) := by decide +kernel
theorem dL_law_1489 : decode cL_law 1489 = .ok (.aload_n 3, 1) := by decide +kernel
theorem dL_law_1490 : decode cL_law 1490 = .ok (.iconst 0, 1) := by decide +kernel
theorem dL_law_1491 : decode cL_law 1491 = .ok (.laload, 1) := by decide +kernel
theorem dL_law_1492 : decode cL_law 1492 = .ok (.iload 6, 2) := by decide +kernel
theorem dL_law_1494 : decode cL_law 1494 = .ok (.i2l, 1) := by decide +kernel
theorem dL_law_1495 : decode cL_law 1495 = .ok (.lcmp, 1) := by decide +kernel
theorem dL_law_1496 : decode cL_law 1496 = .ok (.ifCond .eq 5, 3) := by decide +kernel
theorem dL_law_1499 : decode cL_law 1499 = .ok (.iconst 0, 1) := by decide +kernel
theorem dL_law_1500 : decode cL_law 1500 = .ok (.ireturn, 1) := by decide +kernel
theorem dL_law_1501 : decode cL_law 1501 = .ok (.goto 117, 3) := by decide +kernel
theorem dL_law_1504 : decode cL_law 1504 = .ok (.aload_n 1, 1) := by decide +kernel
theorem dL_law_1505 : decode cL_law 1505 = .ok (.aload_n 0, 1) := by decide +kernel
theorem dL_law_1506 : decode cL_law 1506 = .ok (.iload 4, 2) := by decide +kernel
theorem dL_law_1508 : decode cL_law 1508 = .ok (.iconst 1, 1) := by decide +kernel
theorem dL_law_1509 : decode cL_law 1509 = .ok (.iadd, 1) := by decide +kernel
theorem dL_law_1510 : decode cL_law 1510 = .ok (.iaload, 1) := by decide +kernel
theorem dL_law_1511 : decode cL_law 1511 = .ok (.aload_n 3, 1) := by decide +kernel
theorem dL_law_1512 : decode cL_law 1512 = .ok (.invokestatic 162, 3) := by decide +kernel
theorem dL_law_1515 : decode cL_law 1515 = .ok (.istore 5, 2) := by decide +kernel
theorem dL_law_1517 : decode cL_law 1517 = .ok (.aload_n 2, 1) := by decide +kernel
theorem dL_law_1518 : decode cL_law 1518 = .ok (.aload_n 0, 1) := by decide +kernel
theorem dL_law_1519 : decode cL_law 1519 = .ok (.iload 4, 2) := by decide +kernel
theorem dL_law_1521 : decode cL_law 1521 = .ok (.iconst 1, 1) := by decide +kernel
theorem dL_law_1522 : decode cL_law 1522 = .ok (.iadd, 1) := by decide +kernel
theorem dL_law_1523 : decode cL_law 1523 = .ok (.iaload, 1) := by decide +kernel
theorem dL_law_1524 : decode cL_law 1524 = .ok (.invokevirtual 164, 3) := by decide +kernel
theorem dL_law_1527 : decode cL_law 1527 = .ok (.istore 6, 2) := by decide +kernel
theorem dL_law_1529 : decode cL_law 1529 = .ok (.aload_n 2, 1) := by decide +kernel
theorem dL_law_1530 : decode cL_law 1530 = .ok (.invokevirtual 94, 3) := by decide +kernel
theorem dL_law_1533 : decode cL_law 1533 = .ok (.iload 5, 2) := by decide +kernel
theorem dL_law_1535 : decode cL_law 1535 = .ok (.if_icmp .eq 5, 3) := by decide +kernel
theorem dL_law_1538 : decode cL_law 1538 = .ok (.iconst 0, 1) := by decide +kernel
theorem dL_law_1539 : decode cL_law 1539 = .ok (.ireturn, 1) := by decide +kernel
theorem dL_law_1540 : decode cL_law 1540 = .ok (.iload 5, 2) := by decide +kernel
theorem dL_law_1542 : decode cL_law 1542 = .ok (.ifCond .ne 15, 3) := by decide +kernel
theorem dL_law_1545 : decode cL_law 1545 = .ok (.aload_n 3, 1) := by decide +kernel
theorem dL_law_1546 : decode cL_law 1546 = .ok (.iconst 0, 1) := by decide +kernel
theorem dL_law_1547 : decode cL_law 1547 = .ok (.laload, 1) := by decide +kernel
theorem dL_law_1548 : decode cL_law 1548 = .ok (.iload 6, 2) := by decide +kernel
theorem dL_law_1550 : decode cL_law 1550 = .ok (.i2l, 1) := by decide +kernel
theorem dL_law_1551 : decode cL_law 1551 = .ok (.lcmp, 1) := by decide +kernel
theorem dL_law_1552 : decode cL_law 1552 = .ok (.ifCond .eq 5, 3) := by decide +kernel
theorem dL_law_1555 : decode cL_law 1555 = .ok (.iconst 0, 1) := by decide +kernel
theorem dL_law_1556 : decode cL_law 1556 = .ok (.ireturn, 1) := by decide +kernel
theorem dL_law_1557 : decode cL_law 1557 = .ok (.goto 61, 3) := by decide +kernel
theorem dL_law_1560 : decode cL_law 1560 = .ok (.aload_n 1, 1) := by decide +kernel
theorem dL_law_1561 : decode cL_law 1561 = .ok (.aload_n 3, 1) := by decide +kernel
theorem dL_law_1562 : decode cL_law 1562 = .ok (.invokestatic 165, 3) := by decide +kernel
theorem dL_law_1565 : decode cL_law 1565 = .ok (.istore 5, 2) := by decide +kernel
theorem dL_law_1567 : decode cL_law 1567 = .ok (.aload_n 2, 1) := by decide +kernel
theorem dL_law_1568 : decode cL_law 1568 = .ok (.invokevirtual 168, 3) := by decide +kernel
theorem dL_law_1571 : decode cL_law 1571 = .ok (.istore 6, 2) := by decide +kernel
theorem dL_law_1573 : decode cL_law 1573 = .ok (.aload_n 2, 1) := by decide +kernel
theorem dL_law_1574 : decode cL_law 1574 = .ok (.invokevirtual 94, 3) := by decide +kernel
theorem dL_law_1577 : decode cL_law 1577 = .ok (.iload 5, 2) := by decide +kernel
theorem dL_law_1579 : decode cL_law 1579 = .ok (.if_icmp .eq 5, 3) := by decide +kernel
theorem dL_law_1582 : decode cL_law 1582 = .ok (.iconst 0, 1) := by decide +kernel
theorem dL_law_1583 : decode cL_law 1583 = .ok (.ireturn, 1) := by decide +kernel
theorem dL_law_1584 : decode cL_law 1584 = .ok (.iload 5, 2) := by decide +kernel
theorem dL_law_1586 : decode cL_law 1586 = .ok (.ifCond .ne 15, 3) := by decide +kernel
theorem dL_law_1589 : decode cL_law 1589 = .ok (.aload_n 3, 1) := by decide +kernel
theorem dL_law_1590 : decode cL_law 1590 = .ok (.iconst 0, 1) := by decide +kernel
theorem dL_law_1591 : decode cL_law 1591 = .ok (.laload, 1) := by decide +kernel
theorem dL_law_1592 : decode cL_law 1592 = .ok (.iload 6, 2) := by decide +kernel
theorem dL_law_1594 : decode cL_law 1594 = .ok (.i2l, 1) := by decide +kernel
theorem dL_law_1595 : decode cL_law 1595 = .ok (.lcmp, 1) := by decide +kernel
theorem dL_law_1596 : decode cL_law 1596 = .ok (.ifCond .eq 5, 3) := by decide +kernel
theorem dL_law_1599 : decode cL_law 1599 = .ok (.iconst 0, 1) := by decide +kernel
theorem dL_law_1600 : decode cL_law 1600 = .ok (.ireturn, 1) := by decide +kernel
theorem dL_law_1601 : decode cL_law 1601 = .ok (.goto 17, 3) := by decide +kernel
theorem dL_law_1604 : decode cL_law 1604 = .ok (.aload_n 1, 1) := by decide +kernel
theorem dL_law_1605 : decode cL_law 1605 = .ok (.invokevirtual 169, 3) := by decide +kernel
theorem dL_law_1608 : decode cL_law 1608 = .ok (.aload_n 2, 1) := by decide +kernel
theorem dL_law_1609 : decode cL_law 1609 = .ok (.invokevirtual 173, 3) := by decide +kernel
theorem dL_law_1612 : decode cL_law 1612 = .ok (.lcmp, 1) := by decide +kernel
theorem dL_law_1613 : decode cL_law 1613 = .ok (.ifCond .eq 5, 3) := by decide +kernel
theorem dL_law_1616 : decode cL_law 1616 = .ok (.iconst 0, 1) := by decide +kernel
theorem dL_law_1617 : decode cL_law 1617 = .ok (.ireturn, 1) := by decide +kernel
theorem dL_law_1618 : decode cL_law 1618 = .ok (.iinc 4 5, 3) := by decide +kernel
theorem dL_law_1621 : decode cL_law 1621 = .ok (.goto (-1598), 3) := by decide +kernel
theorem dL_law_1624 : decode cL_law 1624 = .ok (.iconst 1, 1) := by decide +kernel
theorem dL_law_1625 : decode cL_law 1625 = .ok (.ireturn, 1) := by decide +kernel
end
section
theorem dX0_init_0 : decode cX0_init 0 = .ok (.aload_n 0, 1) := by decide +kernel
theorem dX0_init_1 : decode cX0_init 1 = .ok (.invokespecial 3, 3) := by decide +kernel
theorem dX0_init_4 : decode cX0_init 4 = .ok (.aload_n 0, 1) := by decide +kernel
theorem dX0_init_5 : decode cX0_init 5 = .ok (.iconst (-1), 1) := by decide +kernel
theorem dX0_init_6 : decode cX0_init 6 = .ok (.putfield 9, 3) := by decide +kernel
theorem dX0_init_9 : decode cX0_init 9 = .ok (.aload_n 0, 1) := by decide +kernel
theorem dX0_init_10 : decode cX0_init 10 = .ok (.iconst (-1), 1) := by decide +kernel
theorem dX0_init_11 : decode cX0_init 11 = .ok (.putfield 15, 3) := by decide +kernel
theorem dX0_init_14 : decode cX0_init 14 = .ok (.aload_n 0, 1) := by decide +kernel
theorem dX0_init_15 : decode cX0_init 15 = .ok (.iconst (-1), 1) := by decide +kernel
theorem dX0_init_16 : decode cX0_init 16 = .ok (.putfield 18, 3) := by decide +kernel
theorem dX0_init_19 : decode cX0_init 19 = .ok (.aload_n 0, 1) := by decide +kernel
theorem dX0_init_20 : decode cX0_init 20 = .ok (.new 21, 3) := by decide +kernel
theorem dX0_init_23 : decode cX0_init 23 = .ok (.dup, 1) := by decide +kernel
theorem dX0_init_24 : decode cX0_init 24 = .ok (.bipush 24, 2) := by decide +kernel
theorem dX0_init_26 : decode cX0_init 26 = .ok (.invokespecial 23, 3) := by decide +kernel
theorem dX0_init_29 : decode cX0_init 29 = .ok (.putfield 26, 3) := by decide +kernel
theorem dX0_init_32 : decode cX0_init 32 = .ok (.aload_n 0, 1) := by decide +kernel
theorem dX0_init_33 : decode cX0_init 33 = .ok (.new 21, 3) := by decide +kernel
theorem dX0_init_36 : decode cX0_init 36 = .ok (.dup, 1) := by decide +kernel
theorem dX0_init_37 : decode cX0_init 37 = .ok (.bipush 24, 2) := by decide +kernel
theorem dX0_init_39 : decode cX0_init 39 = .ok (.invokespecial 23, 3) := by decide +kernel
theorem dX0_init_42 : decode cX0_init 42 = .ok (.putfield 30, 3) := by decide +kernel
theorem dX0_init_45 : decode cX0_init 45 = .ok (.aload_n 0, 1) := by decide +kernel
theorem dX0_init_46 : decode cX0_init 46 = .ok (.new 21, 3) := by decide +kernel
theorem dX0_init_49 : decode cX0_init 49 = .ok (.dup, 1) := by decide +kernel
theorem dX0_init_50 : decode cX0_init 50 = .ok (.bipush 8, 2) := by decide +kernel
theorem dX0_init_52 : decode cX0_init 52 = .ok (.invokespecial 23, 3) := by decide +kernel
theorem dX0_init_55 : decode cX0_init 55 = .ok (.putfield 33, 3) := by decide +kernel
theorem dX0_init_58 : decode cX0_init 58 = .ok (.aload_n 0, 1) := by decide +kernel
theorem dX0_init_59 : decode cX0_init 59 = .ok (.new 36, 3) := by decide +kernel
theorem dX0_init_62 : decode cX0_init 62 = .ok (.dup, 1) := by decide +kernel
theorem dX0_init_63 : decode cX0_init 63 = .ok (.invokespecial 38, 3) := by decide +kernel
theorem dX0_init_66 : decode cX0_init 66 = .ok (.putfield 39, 3) := by decide +kernel
theorem dX0_init_69 : decode cX0_init 69 = .ok (.return_, 1) := by decide +kernel
theorem dX0_child_0 : decode cX0_child 0 = .ok (.iload_n 1, 1) := by decide +kernel
theorem dX0_child_1 : decode cX0_child 1 = .ok (.iconst 1, 1) := by decide +kernel
theorem dX0_child_2 : decode cX0_child 2 = .ok (.if_icmp .ne 10, 3) := by decide +kernel
theorem dX0_child_5 : decode cX0_child 5 = .ok (.aload_n 0, 1) := by decide +kernel
theorem dX0_child_6 : decode cX0_child 6 = .ok (.getfield 15, 3) := by decide +kernel
theorem dX0_child_9 : decode cX0_child 9 = .ok (.goto 7, 3) := by decide +kernel
theorem dX0_child_12 : decode cX0_child 12 = .ok (.aload_n 0, 1) := by decide +kernel
theorem dX0_child_13 : decode cX0_child 13 = .ok (.getfield 18, 3) := by decide +kernel
theorem dX0_child_16 : decode cX0_child 16 = .ok (.ireturn, 1) := by decide +kernel
theorem dX0_isMarked_0 : decode cX0_isMarked 0 = .ok (.aload_n 0, 1) := by decide +kernel
theorem dX0_isMarked_1 : decode cX0_isMarked 1 = .ok (.getfield 30, 3) := by decide +kernel
theorem dX0_isMarked_4 : decode cX0_isMarked 4 = .ok (.iload_n 1, 1) := by decide +kernel
theorem dX0_isMarked_5 : decode cX0_isMarked 5 = .ok (.iconst 0, 1) := by decide +kernel
theorem dX0_isMarked_6 : decode cX0_isMarked 6 = .ok (.invokevirtual 43, 3) := by decide +kernel
theorem dX0_isMarked_9 : decode cX0_isMarked 9 = .ok (.iconst 1, 1) := by decide +kernel
theorem dX0_isMarked_10 : decode cX0_isMarked 10 = .ok (.if_icmp .ne 7, 3) := by decide +kernel
theorem dX0_isMarked_13 : decode cX0_isMarked 13 = .ok (.iconst 1, 1) := by decide +kernel
theorem dX0_isMarked_14 : decode cX0_isMarked 14 = .ok (.goto 4, 3) := by decide +kernel
theorem dX0_isMarked_17 : decode cX0_isMarked 17 = .ok (.iconst 0, 1) := by decide +kernel
theorem dX0_isMarked_18 : decode cX0_isMarked 18 = .ok (.ireturn, 1) := by decide +kernel
theorem dX0_keyCount_0 : decode cX0_keyCount 0 = .ok (.aload_n 0, 1) := by decide +kernel
theorem dX0_keyCount_1 : decode cX0_keyCount 1 = .ok (.getfield 26, 3) := by decide +kernel
theorem dX0_keyCount_4 : decode cX0_keyCount 4 = .ok (.invokevirtual 47, 3) := by decide +kernel
theorem dX0_keyCount_7 : decode cX0_keyCount 7 = .ok (.aload_n 0, 1) := by decide +kernel
theorem dX0_keyCount_8 : decode cX0_keyCount 8 = .ok (.getfield 51, 3) := by decide +kernel
theorem dX0_keyCount_11 : decode cX0_keyCount 11 = .ok (.isub, 1) := by decide +kernel
theorem dX0_keyCount_12 : decode cX0_keyCount 12 = .ok (.aload_n 0, 1) := by decide +kernel
theorem dX0_keyCount_13 : decode cX0_keyCount 13 = .ok (.getfield 33, 3) := by decide +kernel
theorem dX0_keyCount_16 : decode cX0_keyCount 16 = .ok (.invokevirtual 47, 3) := by decide +kernel
theorem dX0_keyCount_19 : decode cX0_keyCount 19 = .ok (.iadd, 1) := by decide +kernel
theorem dX0_keyCount_20 : decode cX0_keyCount 20 = .ok (.ireturn, 1) := by decide +kernel
theorem dX0_isFull_0 : decode cX0_isFull 0 = .ok (.aload_n 0, 1) := by decide +kernel
theorem dX0_isFull_1 : decode cX0_isFull 1 = .ok (.invokevirtual 54, 3) := by decide +kernel
theorem dX0_isFull_4 : decode cX0_isFull 4 = .ok (.bipush 24, 2) := by decide +kernel
theorem dX0_isFull_6 : decode cX0_isFull 6 = .ok (.if_icmp .lt 7, 3) := by decide +kernel
theorem dX0_isFull_9 : decode cX0_isFull 9 = .ok (.iconst 1, 1) := by decide +kernel
theorem dX0_isFull_10 : decode cX0_isFull 10 = .ok (.goto 4, 3) := by decide +kernel
theorem dX0_isFull_13 : decode cX0_isFull 13 = .ok (.iconst 0, 1) := by decide +kernel
theorem dX0_isFull_14 : decode cX0_isFull 14 = .ok (.ireturn, 1) := by decide +kernel
theorem dX0_holds_0 : decode cX0_holds 0 = .ok (.aload_n 0, 1) := by decide +kernel
theorem dX0_holds_1 : decode cX0_holds 1 = .ok (.getfield 26, 3) := by decide +kernel
theorem dX0_holds_4 : decode cX0_holds 4 = .ok (.iload_n 1, 1) := by decide +kernel
theorem dX0_holds_5 : decode cX0_holds 5 = .ok (.invokevirtual 57, 3) := by decide +kernel
theorem dX0_holds_8 : decode cX0_holds 8 = .ok (.istore_n 2, 1) := by decide +kernel
theorem dX0_holds_9 : decode cX0_holds 9 = .ok (.iload_n 2, 1) := by decide +kernel
theorem dX0_holds_10 : decode cX0_holds 10 = .ok (.iconst (-1), 1) := by decide +kernel
theorem dX0_holds_11 : decode cX0_holds 11 = .ok (.if_icmp .eq 11, 3) := by decide +kernel
theorem dX0_holds_14 : decode cX0_holds 14 = .ok (.aload_n 0, 1) := by decide +kernel
theorem dX0_holds_15 : decode cX0_holds 15 = .ok (.iload_n 2, 1) := by decide +kernel
theorem dX0_holds_16 : decode cX0_holds 16 = .ok (.invokevirtual 61, 3) := by decide +kernel
theorem dX0_holds_19 : decode cX0_holds 19 = .ok (.ifCond .eq 15, 3) := by decide +kernel
theorem dX0_holds_22 : decode cX0_holds 22 = .ok (.aload_n 0, 1) := by decide +kernel
theorem dX0_holds_23 : decode cX0_holds 23 = .ok (.getfield 33, 3) := by decide +kernel
theorem dX0_holds_26 : decode cX0_holds 26 = .ok (.iload_n 1, 1) := by decide +kernel
theorem dX0_holds_27 : decode cX0_holds 27 = .ok (.invokevirtual 57, 3) := by decide +kernel
theorem dX0_holds_30 : decode cX0_holds 30 = .ok (.iconst (-1), 1) := by decide +kernel
theorem dX0_holds_31 : decode cX0_holds 31 = .ok (.if_icmp .eq 7, 3) := by decide +kernel
theorem dX0_holds_34 : decode cX0_holds 34 = .ok (.iconst 1, 1) := by decide +kernel
theorem dX0_holds_35 : decode cX0_holds 35 = .ok (.goto 4, 3) := by decide +kernel
theorem dX0_holds_38 : decode cX0_holds 38 = .ok (.iconst 0, 1) := by decide +kernel
theorem dX0_holds_39 : decode cX0_holds 39 = .ok (.ireturn, 1) := by decide +kernel
theorem dX0_takeIn_0 : decode cX0_takeIn 0 = .ok (.aload_n 0, 1) := by decide +kernel
theorem dX0_takeIn_1 : decode cX0_takeIn 1 = .ok (.getfield 26, 3) := by decide +kernel
theorem dX0_takeIn_4 : decode cX0_takeIn 4 = .ok (.iload_n 1, 1) := by decide +kernel
theorem dX0_takeIn_5 : decode cX0_takeIn 5 = .ok (.invokevirtual 57, 3) := by decide +kernel
theorem dX0_takeIn_8 : decode cX0_takeIn 8 = .ok (.istore_n 2, 1) := by decide +kernel
theorem dX0_takeIn_9 : decode cX0_takeIn 9 = .ok (.iload_n 2, 1) := by decide +kernel
theorem dX0_takeIn_10 : decode cX0_takeIn 10 = .ok (.iconst (-1), 1) := by decide +kernel
theorem dX0_takeIn_11 : decode cX0_takeIn 11 = .ok (.if_icmp .ne 13, 3) := by decide +kernel
theorem dX0_takeIn_14 : decode cX0_takeIn 14 = .ok (.aload_n 0, 1) := by decide +kernel
theorem dX0_takeIn_15 : decode cX0_takeIn 15 = .ok (.getfield 33, 3) := by decide +kernel
theorem dX0_takeIn_18 : decode cX0_takeIn 18 = .ok (.iload_n 1, 1) := by decide +kernel
theorem dX0_takeIn_19 : decode cX0_takeIn 19 = .ok (.invokevirtual 65, 3) := by decide +kernel
theorem dX0_takeIn_22 : decode cX0_takeIn 22 = .ok (.iconst 1, 1) := by decide +kernel
theorem dX0_takeIn_23 : decode cX0_takeIn 23 = .ok (.ireturn, 1) := by decide +kernel
theorem dX0_takeIn_24 : decode cX0_takeIn 24 = .ok (.aload_n 0, 1) := by decide +kernel
theorem dX0_takeIn_25 : decode cX0_takeIn 25 = .ok (.getfield 30, 3) := by decide +kernel
theorem dX0_takeIn_28 : decode cX0_takeIn 28 = .ok (.iload_n 2, 1) := by decide +kernel
theorem dX0_takeIn_29 : decode cX0_takeIn 29 = .ok (.iconst 0, 1) := by decide +kernel
theorem dX0_takeIn_30 : decode cX0_takeIn 30 = .ok (.invokevirtual 68, 3) := by decide +kernel
theorem dX0_takeIn_33 : decode cX0_takeIn 33 = .ok (.aload_n 0, 1) := by decide +kernel
theorem dX0_takeIn_34 : decode cX0_takeIn 34 = .ok (.dup, 1) := by decide +kernel
theorem dX0_takeIn_35 : decode cX0_takeIn 35 = .ok (.getfield 51, 3) := by decide +kernel
theorem dX0_takeIn_38 : decode cX0_takeIn 38 = .ok (.iconst 1, 1) := by decide +kernel
theorem dX0_takeIn_39 : decode cX0_takeIn 39 = .ok (.isub, 1) := by decide +kernel
theorem dX0_takeIn_40 : decode cX0_takeIn 40 = .ok (.putfield 51, 3) := by decide +kernel
theorem dX0_takeIn_43 : decode cX0_takeIn 43 = .ok (.iconst 0, 1) := by decide +kernel
theorem dX0_takeIn_44 : decode cX0_takeIn 44 = .ok (.ireturn, 1) := by decide +kernel
theorem dX0_letGo_0 : decode cX0_letGo 0 = .ok (.aload_n 0, 1) := by decide +kernel
theorem dX0_letGo_1 : decode cX0_letGo 1 = .ok (.getfield 33, 3) := by decide +kernel
theorem dX0_letGo_4 : decode cX0_letGo 4 = .ok (.iload_n 1, 1) := by decide +kernel
theorem dX0_letGo_5 : decode cX0_letGo 5 = .ok (.invokevirtual 57, 3) := by decide +kernel
theorem dX0_letGo_8 : decode cX0_letGo 8 = .ok (.istore_n 2, 1) := by decide +kernel
theorem dX0_letGo_9 : decode cX0_letGo 9 = .ok (.iload_n 2, 1) := by decide +kernel
theorem dX0_letGo_10 : decode cX0_letGo 10 = .ok (.iconst (-1), 1) := by decide +kernel
theorem dX0_letGo_11 : decode cX0_letGo 11 = .ok (.if_icmp .eq 13, 3) := by decide +kernel
theorem dX0_letGo_14 : decode cX0_letGo 14 = .ok (.aload_n 0, 1) := by decide +kernel
theorem dX0_letGo_15 : decode cX0_letGo 15 = .ok (.getfield 33, 3) := by decide +kernel
theorem dX0_letGo_18 : decode cX0_letGo 18 = .ok (.iload_n 2, 1) := by decide +kernel
theorem dX0_letGo_19 : decode cX0_letGo 19 = .ok (.invokevirtual 72, 3) := by decide +kernel
theorem dX0_letGo_22 : decode cX0_letGo 22 = .ok (.iconst 0, 1) := by decide +kernel
theorem dX0_letGo_23 : decode cX0_letGo 23 = .ok (.ireturn, 1) := by decide +kernel
theorem dX0_letGo_24 : decode cX0_letGo 24 = .ok (.aload_n 0, 1) := by decide +kernel
theorem dX0_letGo_25 : decode cX0_letGo 25 = .ok (.getfield 30, 3) := by decide +kernel
theorem dX0_letGo_28 : decode cX0_letGo 28 = .ok (.aload_n 0, 1) := by decide +kernel
theorem dX0_letGo_29 : decode cX0_letGo 29 = .ok (.getfield 26, 3) := by decide +kernel
theorem dX0_letGo_32 : decode cX0_letGo 32 = .ok (.iload_n 1, 1) := by decide +kernel
theorem dX0_letGo_33 : decode cX0_letGo 33 = .ok (.invokevirtual 57, 3) := by decide +kernel
theorem dX0_letGo_36 : decode cX0_letGo 36 = .ok (.iconst 1, 1) := by decide +kernel
theorem dX0_letGo_37 : decode cX0_letGo 37 = .ok (.invokevirtual 68, 3) := by decide +kernel
theorem dX0_letGo_40 : decode cX0_letGo 40 = .ok (.aload_n 0, 1) := by decide +kernel
theorem dX0_letGo_41 : decode cX0_letGo 41 = .ok (.dup, 1) := by decide +kernel
theorem dX0_letGo_42 : decode cX0_letGo 42 = .ok (.getfield 51, 3) := by decide +kernel
theorem dX0_letGo_45 : decode cX0_letGo 45 = .ok (.iconst 1, 1) := by decide +kernel
theorem dX0_letGo_46 : decode cX0_letGo 46 = .ok (.iadd, 1) := by decide +kernel
theorem dX0_letGo_47 : decode cX0_letGo 47 = .ok (.putfield 51, 3) := by decide +kernel
theorem dX0_letGo_50 : decode cX0_letGo 50 = .ok (.iconst 1, 1) := by decide +kernel
theorem dX0_letGo_51 : decode cX0_letGo 51 = .ok (.ireturn, 1) := by decide +kernel
theorem dX0_settle_0 : decode cX0_settle 0 = .ok (.iconst 0, 1) := by decide +kernel
theorem dX0_settle_1 : decode cX0_settle 1 = .ok (.istore_n 1, 1) := by decide +kernel
theorem dX0_settle_2 : decode cX0_settle 2 = .ok (.iconst 0, 1) := by decide +kernel
theorem dX0_settle_3 : decode cX0_settle 3 = .ok (.istore_n 2, 1) := by decide +kernel
theorem dX0_settle_4 : decode cX0_settle 4 = .ok (.iload_n 2, 1) := by decide +kernel
theorem dX0_settle_5 : decode cX0_settle 5 = .ok (.aload_n 0, 1) := by decide +kernel
theorem dX0_settle_6 : decode cX0_settle 6 = .ok (.getfield 26, 3) := by decide +kernel
theorem dX0_settle_9 : decode cX0_settle 9 = .ok (.invokevirtual 47, 3) := by decide +kernel
theorem dX0_settle_12 : decode cX0_settle 12 = .ok (.if_icmp .ge 37, 3) := by decide +kernel
theorem dX0_settle_15 : decode cX0_settle 15 = .ok (.aload_n 0, 1) := by decide +kernel
theorem dX0_settle_16 : decode cX0_settle 16 = .ok (.iload_n 2, 1) := by decide +kernel
theorem dX0_settle_17 : decode cX0_settle 17 = .ok (.invokevirtual 61, 3) := by decide +kernel
theorem dX0_settle_20 : decode cX0_settle 20 = .ok (.ifCond .ne 23, 3) := by decide +kernel
theorem dX0_settle_23 : decode cX0_settle 23 = .ok (.aload_n 0, 1) := by decide +kernel
theorem dX0_settle_24 : decode cX0_settle 24 = .ok (.getfield 26, 3) := by decide +kernel
theorem dX0_settle_27 : decode cX0_settle 27 = .ok (.iload_n 1, 1) := by decide +kernel
theorem dX0_settle_28 : decode cX0_settle 28 = .ok (.aload_n 0, 1) := by decide +kernel
theorem dX0_settle_29 : decode cX0_settle 29 = .ok (.getfield 26, 3) := by decide +kernel
theorem dX0_settle_32 : decode cX0_settle 32 = .ok (.iload_n 2, 1) := by decide +kernel
theorem dX0_settle_33 : decode cX0_settle 33 = .ok (.iconst 0, 1) := by decide +kernel
theorem dX0_settle_34 : decode cX0_settle 34 = .ok (.invokevirtual 43, 3) := by decide +kernel
theorem dX0_settle_37 : decode cX0_settle 37 = .ok (.invokevirtual 68, 3) := by decide +kernel
theorem dX0_settle_40 : decode cX0_settle 40 = .ok (.iinc 1 1, 3) := by decide +kernel
theorem dX0_settle_43 : decode cX0_settle 43 = .ok (.iinc 2 1, 3) := by decide +kernel
theorem dX0_settle_46 : decode cX0_settle 46 = .ok (.goto (-42), 3) := by decide +kernel
theorem dX0_settle_49 : decode cX0_settle 49 = .ok (.aload_n 0, 1) := by decide +kernel
theorem dX0_settle_50 : decode cX0_settle 50 = .ok (.getfield 26, 3) := by decide +kernel
theorem dX0_settle_53 : decode cX0_settle 53 = .ok (.iload_n 1, 1) := by decide +kernel
theorem dX0_settle_54 : decode cX0_settle 54 = .ok (.invokevirtual 75, 3) := by decide +kernel
theorem dX0_settle_57 : decode cX0_settle 57 = .ok (.iconst 0, 1) := by decide +kernel
theorem dX0_settle_58 : decode cX0_settle 58 = .ok (.istore_n 2, 1) := by decide +kernel
theorem dX0_settle_59 : decode cX0_settle 59 = .ok (.iload_n 2, 1) := by decide +kernel
theorem dX0_settle_60 : decode cX0_settle 60 = .ok (.aload_n 0, 1) := by decide +kernel
theorem dX0_settle_61 : decode cX0_settle 61 = .ok (.getfield 33, 3) := by decide +kernel
theorem dX0_settle_64 : decode cX0_settle 64 = .ok (.invokevirtual 47, 3) := by decide +kernel
theorem dX0_settle_67 : decode cX0_settle 67 = .ok (.if_icmp .ge 36, 3) := by decide +kernel
theorem dX0_settle_70 : decode cX0_settle 70 = .ok (.aload_n 0, 1) := by decide +kernel
theorem dX0_settle_71 : decode cX0_settle 71 = .ok (.getfield 33, 3) := by decide +kernel
theorem dX0_settle_74 : decode cX0_settle 74 = .ok (.iload_n 2, 1) := by decide +kernel
theorem dX0_settle_75 : decode cX0_settle 75 = .ok (.iconst 0, 1) := by decide +kernel
theorem dX0_settle_76 : decode cX0_settle 76 = .ok (.invokevirtual 43, 3) := by decide +kernel
theorem dX0_settle_79 : decode cX0_settle 79 = .ok (.istore_n 3, 1) := by decide +kernel
theorem dX0_settle_80 : decode cX0_settle 80 = .ok (.aload_n 0, 1) := by decide +kernel
theorem dX0_settle_81 : decode cX0_settle 81 = .ok (.getfield 26, 3) := by decide +kernel
theorem dX0_settle_84 : decode cX0_settle 84 = .ok (.aload_n 0, 1) := by decide +kernel
theorem dX0_settle_85 : decode cX0_settle 85 = .ok (.getfield 26, 3) := by decide +kernel
theorem dX0_settle_88 : decode cX0_settle 88 = .ok (.iload_n 3, 1) := by decide +kernel
theorem dX0_settle_89 : decode cX0_settle 89 = .ok (.iconst 0, 1) := by decide +kernel
theorem dX0_settle_90 : decode cX0_settle 90 = .ok (.invokevirtual 78, 3) := by decide +kernel
theorem dX0_settle_93 : decode cX0_settle 93 = .ok (.iload_n 3, 1) := by decide +kernel
theorem dX0_settle_94 : decode cX0_settle 94 = .ok (.invokevirtual 81, 3) := by decide +kernel
theorem dX0_settle_97 : decode cX0_settle 97 = .ok (.iinc 2 1, 3) := by decide +kernel
theorem dX0_settle_100 : decode cX0_settle 100 = .ok (.goto (-41), 3) := by decide +kernel
theorem dX0_settle_103 : decode cX0_settle 103 = .ok (.aload_n 0, 1) := by decide +kernel
theorem dX0_settle_104 : decode cX0_settle 104 = .ok (.getfield 33, 3) := by decide +kernel
theorem dX0_settle_107 : decode cX0_settle 107 = .ok (.iconst 0, 1) := by decide +kernel
theorem dX0_settle_108 : decode cX0_settle 108 = .ok (.invokevirtual 75, 3) := by decide +kernel
theorem dX0_settle_111 : decode cX0_settle 111 = .ok (.aload_n 0, 1) := by decide +kernel
theorem dX0_settle_112 : decode cX0_settle 112 = .ok (.getfield 30, 3) := by decide +kernel
theorem dX0_settle_115 : decode cX0_settle 115 = .ok (.iconst 0, 1) := by decide +kernel
theorem dX0_settle_116 : decode cX0_settle 116 = .ok (.invokevirtual 75, 3) := by decide +kernel
theorem dX0_settle_119 : decode cX0_settle 119 = .ok (.iconst 0, 1) := by decide +kernel
theorem dX0_settle_120 : decode cX0_settle 120 = .ok (.istore_n 2, 1) := by decide +kernel
theorem dX0_settle_121 : decode cX0_settle 121 = .ok (.iload_n 2, 1) := by decide +kernel
theorem dX0_settle_122 : decode cX0_settle 122 = .ok (.aload_n 0, 1) := by decide +kernel
theorem dX0_settle_123 : decode cX0_settle 123 = .ok (.getfield 26, 3) := by decide +kernel
theorem dX0_settle_126 : decode cX0_settle 126 = .ok (.invokevirtual 47, 3) := by decide +kernel
theorem dX0_settle_129 : decode cX0_settle 129 = .ok (.if_icmp .ge 17, 3) := by decide +kernel
theorem dX0_settle_132 : decode cX0_settle 132 = .ok (.aload_n 0, 1) := by decide +kernel
theorem dX0_settle_133 : decode cX0_settle 133 = .ok (.getfield 30, 3) := by decide +kernel
theorem dX0_settle_136 : decode cX0_settle 136 = .ok (.iconst 0, 1) := by decide +kernel
theorem dX0_settle_137 : decode cX0_settle 137 = .ok (.invokevirtual 65, 3) := by decide +kernel
theorem dX0_settle_140 : decode cX0_settle 140 = .ok (.iinc 2 1, 3) := by decide +kernel
theorem dX0_settle_143 : decode cX0_settle 143 = .ok (.goto (-22), 3) := by decide +kernel
theorem dX0_settle_146 : decode cX0_settle 146 = .ok (.aload_n 0, 1) := by decide +kernel
theorem dX0_settle_147 : decode cX0_settle 147 = .ok (.iconst 0, 1) := by decide +kernel
theorem dX0_settle_148 : decode cX0_settle 148 = .ok (.putfield 51, 3) := by decide +kernel
theorem dX0_settle_151 : decode cX0_settle 151 = .ok (.return_, 1) := by decide +kernel
theorem dX0_firstUnmarked_0 : decode cX0_firstUnmarked 0 = .ok (.iload_n 1, 1) := by decide +kernel
theorem dX0_firstUnmarked_1 : decode cX0_firstUnmarked 1 = .ok (.istore_n 2, 1) := by decide +kernel
theorem dX0_firstUnmarked_2 : decode cX0_firstUnmarked 2 = .ok (.iload_n 2, 1) := by decide +kernel
theorem dX0_firstUnmarked_3 : decode cX0_firstUnmarked 3 = .ok (.aload_n 0, 1) := by decide +kernel
theorem dX0_firstUnmarked_4 : decode cX0_firstUnmarked 4 = .ok (.getfield 26, 3) := by decide +kernel
theorem dX0_firstUnmarked_7 : decode cX0_firstUnmarked 7 = .ok (.invokevirtual 47, 3) := by decide +kernel
theorem dX0_firstUnmarked_10 : decode cX0_firstUnmarked 10 = .ok (.if_icmp .ge 22, 3) := by decide +kernel
theorem dX0_firstUnmarked_13 : decode cX0_firstUnmarked 13 = .ok (.aload_n 0, 1) := by decide +kernel
theorem dX0_firstUnmarked_14 : decode cX0_firstUnmarked 14 = .ok (.getfield 30, 3) := by decide +kernel
theorem dX0_firstUnmarked_17 : decode cX0_firstUnmarked 17 = .ok (.iload_n 2, 1) := by decide +kernel
theorem dX0_firstUnmarked_18 : decode cX0_firstUnmarked 18 = .ok (.iconst 0, 1) := by decide +kernel
theorem dX0_firstUnmarked_19 : decode cX0_firstUnmarked 19 = .ok (.invokevirtual 43, 3) := by decide +kernel
theorem dX0_firstUnmarked_22 : decode cX0_firstUnmarked 22 = .ok (.iconst 1, 1) := by decide +kernel
theorem dX0_firstUnmarked_23 : decode cX0_firstUnmarked 23 = .ok (.if_icmp .ne 9, 3) := by decide +kernel
theorem dX0_firstUnmarked_26 : decode cX0_firstUnmarked 26 = .ok (.iinc 2 1, 3) := by decide +kernel
theorem dX0_firstUnmarked_29 : decode cX0_firstUnmarked 29 = .ok (.goto (-27), 3) := by decide +kernel
theorem dX0_firstUnmarked_32 : decode cX0_firstUnmarked 32 = .ok (.iload_n 2, 1) := by decide +kernel
theorem dX0_firstUnmarked_33 : decode cX0_firstUnmarked 33 = .ok (.ireturn, 1) := by decide +kernel
theorem dX0_leastBuffered_0 : decode cX0_leastBuffered 0 = .ok (.iload_n 2, 1) := by decide +kernel
theorem dX0_leastBuffered_1 : decode cX0_leastBuffered 1 = .ok (.istore_n 3, 1) := by decide +kernel
theorem dX0_leastBuffered_2 : decode cX0_leastBuffered 2 = .ok (.iconst 0, 1) := by decide +kernel
theorem dX0_leastBuffered_3 : decode cX0_leastBuffered 3 = .ok (.istore 4, 2) := by decide +kernel
theorem dX0_leastBuffered_5 : decode cX0_leastBuffered 5 = .ok (.iload 4, 2) := by decide +kernel
theorem dX0_leastBuffered_7 : decode cX0_leastBuffered 7 = .ok (.aload_n 0, 1) := by decide +kernel
theorem dX0_leastBuffered_8 : decode cX0_leastBuffered 8 = .ok (.getfield 33, 3) := by decide +kernel
theorem dX0_leastBuffered_11 : decode cX0_leastBuffered 11 = .ok (.invokevirtual 47, 3) := by decide +kernel
theorem dX0_leastBuffered_14 : decode cX0_leastBuffered 14 = .ok (.if_icmp .ge 36, 3) := by decide +kernel
theorem dX0_leastBuffered_17 : decode cX0_leastBuffered 17 = .ok (.aload_n 0, 1) := by decide +kernel
theorem dX0_leastBuffered_18 : decode cX0_leastBuffered 18 = .ok (.getfield 33, 3) := by decide +kernel
theorem dX0_leastBuffered_21 : decode cX0_leastBuffered 21 = .ok (.iload 4, 2) := by decide +kernel
theorem dX0_leastBuffered_23 : decode cX0_leastBuffered 23 = .ok (.iconst 0, 1) := by decide +kernel
theorem dX0_leastBuffered_24 : decode cX0_leastBuffered 24 = .ok (.invokevirtual 43, 3) := by decide +kernel
theorem dX0_leastBuffered_27 : decode cX0_leastBuffered 27 = .ok (.istore 5, 2) := by decide +kernel
theorem dX0_leastBuffered_29 : decode cX0_leastBuffered 29 = .ok (.iload 5, 2) := by decide +kernel
theorem dX0_leastBuffered_31 : decode cX0_leastBuffered 31 = .ok (.iload_n 1, 1) := by decide +kernel
theorem dX0_leastBuffered_32 : decode cX0_leastBuffered 32 = .ok (.if_icmp .lt 12, 3) := by decide +kernel
theorem dX0_leastBuffered_35 : decode cX0_leastBuffered 35 = .ok (.iload 5, 2) := by decide +kernel
theorem dX0_leastBuffered_37 : decode cX0_leastBuffered 37 = .ok (.iload_n 3, 1) := by decide +kernel
theorem dX0_leastBuffered_38 : decode cX0_leastBuffered 38 = .ok (.if_icmp .ge 6, 3) := by decide +kernel
theorem dX0_leastBuffered_41 : decode cX0_leastBuffered 41 = .ok (.iload 5, 2) := by decide +kernel
theorem dX0_leastBuffered_43 : decode cX0_leastBuffered 43 = .ok (.istore_n 3, 1) := by decide +kernel
theorem dX0_leastBuffered_44 : decode cX0_leastBuffered 44 = .ok (.iinc 4 1, 3) := by decide +kernel
theorem dX0_leastBuffered_47 : decode cX0_leastBuffered 47 = .ok (.goto (-42), 3) := by decide +kernel
theorem dX0_leastBuffered_50 : decode cX0_leastBuffered 50 = .ok (.iload_n 3, 1) := by decide +kernel
theorem dX0_leastBuffered_51 : decode cX0_leastBuffered 51 = .ok (.ireturn, 1) := by decide +kernel
theorem dX0_keyInOrder_0 : decode cX0_keyInOrder 0 = .ok (.iload_n 1, 1) := by decide +kernel
theorem dX0_keyInOrder_1 : decode cX0_keyInOrder 1 = .ok (.aload_n 0, 1) := by decide +kernel
theorem dX0_keyInOrder_2 : decode cX0_keyInOrder 2 = .ok (.invokevirtual 54, 3) := by decide +kernel
theorem dX0_keyInOrder_5 : decode cX0_keyInOrder 5 = .ok (.if_icmp .lt 5, 3) := by decide +kernel
theorem dX0_keyInOrder_8 : decode cX0_keyInOrder 8 = .ok (.iconst (-1), 1) := by decide +kernel
theorem dX0_keyInOrder_9 : decode cX0_keyInOrder 9 = .ok (.ireturn, 1) := by decide +kernel
theorem dX0_keyInOrder_10 : decode cX0_keyInOrder 10 = .ok (.iconst (-1), 1) := by decide +kernel
theorem dX0_keyInOrder_11 : decode cX0_keyInOrder 11 = .ok (.istore_n 2, 1) := by decide +kernel
theorem dX0_keyInOrder_12 : decode cX0_keyInOrder 12 = .ok (.iconst 0, 1) := by decide +kernel
theorem dX0_keyInOrder_13 : decode cX0_keyInOrder 13 = .ok (.istore_n 3, 1) := by decide +kernel
theorem dX0_keyInOrder_14 : decode cX0_keyInOrder 14 = .ok (.iload_n 3, 1) := by decide +kernel
theorem dX0_keyInOrder_15 : decode cX0_keyInOrder 15 = .ok (.iload_n 1, 1) := by decide +kernel
theorem dX0_keyInOrder_16 : decode cX0_keyInOrder 16 = .ok (.if_icmp .gt 49, 3) := by decide +kernel
theorem dX0_keyInOrder_19 : decode cX0_keyInOrder 19 = .ok (.iload_n 2, 1) := by decide +kernel
theorem dX0_keyInOrder_20 : decode cX0_keyInOrder 20 = .ok (.iconst 1, 1) := by decide +kernel
theorem dX0_keyInOrder_21 : decode cX0_keyInOrder 21 = .ok (.iadd, 1) := by decide +kernel
theorem dX0_keyInOrder_22 : decode cX0_keyInOrder 22 = .ok (.istore 4, 2) := by decide +kernel
theorem dX0_keyInOrder_24 : decode cX0_keyInOrder 24 = .ok (.aload_n 0, 1) := by decide +kernel
theorem dX0_keyInOrder_25 : decode cX0_keyInOrder 25 = .ok (.aload_n 0, 1) := by decide +kernel
theorem dX0_keyInOrder_26 : decode cX0_keyInOrder 26 = .ok (.getfield 26, 3) := by decide +kernel
theorem dX0_keyInOrder_29 : decode cX0_keyInOrder 29 = .ok (.iload 4, 2) := by decide +kernel
theorem dX0_keyInOrder_31 : decode cX0_keyInOrder 31 = .ok (.iconst 0, 1) := by decide +kernel
theorem dX0_keyInOrder_32 : decode cX0_keyInOrder 32 = .ok (.invokevirtual 78, 3) := by decide +kernel
theorem dX0_keyInOrder_35 : decode cX0_keyInOrder 35 = .ok (.invokevirtual 84, 3) := by decide +kernel
theorem dX0_keyInOrder_38 : decode cX0_keyInOrder 38 = .ok (.istore 5, 2) := by decide +kernel
theorem dX0_keyInOrder_40 : decode cX0_keyInOrder 40 = .ok (.aload_n 0, 1) := by decide +kernel
theorem dX0_keyInOrder_41 : decode cX0_keyInOrder 41 = .ok (.iload 4, 2) := by decide +kernel
theorem dX0_keyInOrder_43 : decode cX0_keyInOrder 43 = .ok (.aload_n 0, 1) := by decide +kernel
theorem dX0_keyInOrder_44 : decode cX0_keyInOrder 44 = .ok (.getfield 26, 3) := by decide +kernel
theorem dX0_keyInOrder_47 : decode cX0_keyInOrder 47 = .ok (.iload 5, 2) := by decide +kernel
theorem dX0_keyInOrder_49 : decode cX0_keyInOrder 49 = .ok (.sipush 10000, 3) := by decide +kernel
theorem dX0_keyInOrder_52 : decode cX0_keyInOrder 52 = .ok (.invokevirtual 43, 3) := by decide +kernel
theorem dX0_keyInOrder_55 : decode cX0_keyInOrder 55 = .ok (.invokevirtual 87, 3) := by decide +kernel
theorem dX0_keyInOrder_58 : decode cX0_keyInOrder 58 = .ok (.istore_n 2, 1) := by decide +kernel
theorem dX0_keyInOrder_59 : decode cX0_keyInOrder 59 = .ok (.iinc 3 1, 3) := by decide +kernel
theorem dX0_keyInOrder_62 : decode cX0_keyInOrder 62 = .ok (.goto (-48), 3) := by decide +kernel
theorem dX0_keyInOrder_65 : decode cX0_keyInOrder 65 = .ok (.iload_n 2, 1) := by decide +kernel
theorem dX0_keyInOrder_66 : decode cX0_keyInOrder 66 = .ok (.ireturn, 1) := by decide +kernel
theorem dX0_begin_0 : decode cX0_begin 0 = .ok (.aload_n 0, 1) := by decide +kernel
theorem dX0_begin_1 : decode cX0_begin 1 = .ok (.iload_n 1, 1) := by decide +kernel
theorem dX0_begin_2 : decode cX0_begin 2 = .ok (.putfield 9, 3) := by decide +kernel
theorem dX0_begin_5 : decode cX0_begin 5 = .ok (.aload_n 0, 1) := by decide +kernel
theorem dX0_begin_6 : decode cX0_begin 6 = .ok (.iconst (-1), 1) := by decide +kernel
theorem dX0_begin_7 : decode cX0_begin 7 = .ok (.putfield 15, 3) := by decide +kernel
theorem dX0_begin_10 : decode cX0_begin 10 = .ok (.aload_n 0, 1) := by decide +kernel
theorem dX0_begin_11 : decode cX0_begin 11 = .ok (.iconst (-1), 1) := by decide +kernel
theorem dX0_begin_12 : decode cX0_begin 12 = .ok (.putfield 18, 3) := by decide +kernel
theorem dX0_begin_15 : decode cX0_begin 15 = .ok (.aload_n 0, 1) := by decide +kernel
theorem dX0_begin_16 : decode cX0_begin 16 = .ok (.iload_n 2, 1) := by decide +kernel
theorem dX0_begin_17 : decode cX0_begin 17 = .ok (.putfield 90, 3) := by decide +kernel
theorem dX0_begin_20 : decode cX0_begin 20 = .ok (.aload_n 0, 1) := by decide +kernel
theorem dX0_begin_21 : decode cX0_begin 21 = .ok (.iconst 0, 1) := by decide +kernel
theorem dX0_begin_22 : decode cX0_begin 22 = .ok (.putfield 51, 3) := by decide +kernel
theorem dX0_begin_25 : decode cX0_begin 25 = .ok (.aload_n 0, 1) := by decide +kernel
theorem dX0_begin_26 : decode cX0_begin 26 = .ok (.getfield 26, 3) := by decide +kernel
theorem dX0_begin_29 : decode cX0_begin 29 = .ok (.iconst 0, 1) := by decide +kernel
theorem dX0_begin_30 : decode cX0_begin 30 = .ok (.invokevirtual 75, 3) := by decide +kernel
theorem dX0_begin_33 : decode cX0_begin 33 = .ok (.aload_n 0, 1) := by decide +kernel
theorem dX0_begin_34 : decode cX0_begin 34 = .ok (.getfield 30, 3) := by decide +kernel
theorem dX0_begin_37 : decode cX0_begin 37 = .ok (.iconst 0, 1) := by decide +kernel
theorem dX0_begin_38 : decode cX0_begin 38 = .ok (.invokevirtual 75, 3) := by decide +kernel
theorem dX0_begin_41 : decode cX0_begin 41 = .ok (.aload_n 0, 1) := by decide +kernel
theorem dX0_begin_42 : decode cX0_begin 42 = .ok (.getfield 33, 3) := by decide +kernel
theorem dX0_begin_45 : decode cX0_begin 45 = .ok (.iconst 0, 1) := by decide +kernel
theorem dX0_begin_46 : decode cX0_begin 46 = .ok (.invokevirtual 75, 3) := by decide +kernel
theorem dX0_begin_49 : decode cX0_begin 49 = .ok (.return_, 1) := by decide +kernel
theorem dX0_copyFrom_0 : decode cX0_copyFrom 0 = .ok (.aload_n 0, 1) := by decide +kernel
theorem dX0_copyFrom_1 : decode cX0_copyFrom 1 = .ok (.aload_n 1, 1) := by decide +kernel
theorem dX0_copyFrom_2 : decode cX0_copyFrom 2 = .ok (.getfield 9, 3) := by decide +kernel
theorem dX0_copyFrom_5 : decode cX0_copyFrom 5 = .ok (.putfield 9, 3) := by decide +kernel
theorem dX0_copyFrom_8 : decode cX0_copyFrom 8 = .ok (.aload_n 0, 1) := by decide +kernel
theorem dX0_copyFrom_9 : decode cX0_copyFrom 9 = .ok (.aload_n 1, 1) := by decide +kernel
theorem dX0_copyFrom_10 : decode cX0_copyFrom 10 = .ok (.getfield 15, 3) := by decide +kernel
theorem dX0_copyFrom_13 : decode cX0_copyFrom 13 = .ok (.putfield 15, 3) := by decide +kernel
theorem dX0_copyFrom_16 : decode cX0_copyFrom 16 = .ok (.aload_n 0, 1) := by decide +kernel
theorem dX0_copyFrom_17 : decode cX0_copyFrom 17 = .ok (.aload_n 1, 1) := by decide +kernel
theorem dX0_copyFrom_18 : decode cX0_copyFrom 18 = .ok (.getfield 18, 3) := by decide +kernel
theorem dX0_copyFrom_21 : decode cX0_copyFrom 21 = .ok (.putfield 18, 3) := by decide +kernel
theorem dX0_copyFrom_24 : decode cX0_copyFrom 24 = .ok (.aload_n 0, 1) := by decide +kernel
theorem dX0_copyFrom_25 : decode cX0_copyFrom 25 = .ok (.aload_n 1, 1) := by decide +kernel
theorem dX0_copyFrom_26 : decode cX0_copyFrom 26 = .ok (.getfield 90, 3) := by decide +kernel
theorem dX0_copyFrom_29 : decode cX0_copyFrom 29 = .ok (.putfield 90, 3) := by decide +kernel
theorem dX0_copyFrom_32 : decode cX0_copyFrom 32 = .ok (.aload_n 0, 1) := by decide +kernel
theorem dX0_copyFrom_33 : decode cX0_copyFrom 33 = .ok (.aload_n 1, 1) := by decide +kernel
theorem dX0_copyFrom_34 : decode cX0_copyFrom 34 = .ok (.getfield 51, 3) := by decide +kernel
theorem dX0_copyFrom_37 : decode cX0_copyFrom 37 = .ok (.putfield 51, 3) := by decide +kernel
theorem dX0_copyFrom_40 : decode cX0_copyFrom 40 = .ok (.aload_n 0, 1) := by decide +kernel
theorem dX0_copyFrom_41 : decode cX0_copyFrom 41 = .ok (.getfield 26, 3) := by decide +kernel
theorem dX0_copyFrom_44 : decode cX0_copyFrom 44 = .ok (.aload_n 1, 1) := by decide +kernel
theorem dX0_copyFrom_45 : decode cX0_copyFrom 45 = .ok (.getfield 26, 3) := by decide +kernel
theorem dX0_copyFrom_48 : decode cX0_copyFrom 48 = .ok (.invokevirtual 93, 3) := by decide +kernel
theorem dX0_copyFrom_51 : decode cX0_copyFrom 51 = .ok (.aload_n 0, 1) := by decide +kernel
theorem dX0_copyFrom_52 : decode cX0_copyFrom 52 = .ok (.getfield 30, 3) := by decide +kernel
theorem dX0_copyFrom_55 : decode cX0_copyFrom 55 = .ok (.aload_n 1, 1) := by decide +kernel
theorem dX0_copyFrom_56 : decode cX0_copyFrom 56 = .ok (.getfield 30, 3) := by decide +kernel
theorem dX0_copyFrom_59 : decode cX0_copyFrom 59 = .ok (.invokevirtual 93, 3) := by decide +kernel
theorem dX0_copyFrom_62 : decode cX0_copyFrom 62 = .ok (.aload_n 0, 1) := by decide +kernel
theorem dX0_copyFrom_63 : decode cX0_copyFrom 63 = .ok (.getfield 33, 3) := by decide +kernel
theorem dX0_copyFrom_66 : decode cX0_copyFrom 66 = .ok (.aload_n 1, 1) := by decide +kernel
theorem dX0_copyFrom_67 : decode cX0_copyFrom 67 = .ok (.getfield 33, 3) := by decide +kernel
theorem dX0_copyFrom_70 : decode cX0_copyFrom 70 = .ok (.invokevirtual 93, 3) := by decide +kernel
theorem dX0_copyFrom_73 : decode cX0_copyFrom 73 = .ok (.aload_n 0, 1) := by decide +kernel
theorem dX0_copyFrom_74 : decode cX0_copyFrom 74 = .ok (.getfield 39, 3) := by decide +kernel
theorem dX0_copyFrom_77 : decode cX0_copyFrom 77 = .ok (.aload_n 1, 1) := by decide +kernel
theorem dX0_copyFrom_78 : decode cX0_copyFrom 78 = .ok (.getfield 39, 3) := by decide +kernel
theorem dX0_copyFrom_81 : decode cX0_copyFrom 81 = .ok (.invokevirtual 97, 3) := by decide +kernel
theorem dX0_copyFrom_84 : decode cX0_copyFrom 84 = .ok (.return_, 1) := by decide +kernel
end
section
theorem dX1_init_0 : decode cX1_init 0 = .ok (.aload_n 0, 1) := by decide +kernel
theorem dX1_init_1 : decode cX1_init 1 = .ok (.invokespecial 3, 3) := by decide +kernel
theorem dX1_init_4 : decode cX1_init 4 = .ok (.aload_n 0, 1) := by decide +kernel
theorem dX1_init_5 : decode cX1_init 5 = .ok (.iconst 4, 1) := by decide +kernel
theorem dX1_init_6 : decode cX1_init 6 = .ok (.anewarray 9, 3) := by decide +kernel
theorem dX1_init_9 : decode cX1_init 9 = .ok (.putfield 11, 3) := by decide +kernel
theorem dX1_init_12 : decode cX1_init 12 = .ok (.iconst 0, 1) := by decide +kernel
theorem dX1_init_13 : decode cX1_init 13 = .ok (.istore_n 1, 1) := by decide +kernel
theorem dX1_init_14 : decode cX1_init 14 = .ok (.iload_n 1, 1) := by decide +kernel
theorem dX1_init_15 : decode cX1_init 15 = .ok (.aload_n 0, 1) := by decide +kernel
theorem dX1_init_16 : decode cX1_init 16 = .ok (.getfield 11, 3) := by decide +kernel
theorem dX1_init_19 : decode cX1_init 19 = .ok (.arraylength, 1) := by decide +kernel
theorem dX1_init_20 : decode cX1_init 20 = .ok (.if_icmp .ge 22, 3) := by decide +kernel
theorem dX1_init_23 : decode cX1_init 23 = .ok (.aload_n 0, 1) := by decide +kernel
theorem dX1_init_24 : decode cX1_init 24 = .ok (.getfield 11, 3) := by decide +kernel
theorem dX1_init_27 : decode cX1_init 27 = .ok (.iload_n 1, 1) := by decide +kernel
theorem dX1_init_28 : decode cX1_init 28 = .ok (.new 9, 3) := by decide +kernel
theorem dX1_init_31 : decode cX1_init 31 = .ok (.dup, 1) := by decide +kernel
theorem dX1_init_32 : decode cX1_init 32 = .ok (.invokespecial 17, 3) := by decide +kernel
theorem dX1_init_35 : decode cX1_init 35 = .ok (.aastore, 1) := by decide +kernel
theorem dX1_init_36 : decode cX1_init 36 = .ok (.iinc 1 1, 3) := by decide +kernel
theorem dX1_init_39 : decode cX1_init 39 = .ok (.goto (-25), 3) := by decide +kernel
theorem dX1_init_42 : decode cX1_init 42 = .ok (.return_, 1) := by decide +kernel
theorem dX1_save_0 : decode cX1_save 0 = .ok (.aload_n 0, 1) := by decide +kernel
theorem dX1_save_1 : decode cX1_save 1 = .ok (.aload_n 0, 1) := by decide +kernel
theorem dX1_save_2 : decode cX1_save 2 = .ok (.getfield 18, 3) := by decide +kernel
theorem dX1_save_5 : decode cX1_save 5 = .ok (.invokevirtual 22, 3) := by decide +kernel
theorem dX1_save_8 : decode cX1_save 8 = .ok (.astore_n 2, 1) := by decide +kernel
theorem dX1_save_9 : decode cX1_save 9 = .ok (.aload_n 2, 1) := by decide +kernel
theorem dX1_save_10 : decode cX1_save 10 = .ok (.ifnonnull 4, 3) := by decide +kernel
theorem dX1_save_13 : decode cX1_save 13 = .ok (.return_, 1) := by decide +kernel
theorem dX1_save_14 : decode cX1_save 14 = .ok (.aload_n 2, 1) := by decide +kernel
theorem dX1_save_15 : decode cX1_save 15 = .ok (.aload_n 1, 1) := by decide +kernel
theorem dX1_save_16 : decode cX1_save 16 = .ok (.invokevirtual 26, 3) := by decide +kernel
theorem dX1_save_19 : decode cX1_save 19 = .ok (.aload_n 0, 1) := by decide +kernel
theorem dX1_save_20 : decode cX1_save 20 = .ok (.aload_n 0, 1) := by decide +kernel
theorem dX1_save_21 : decode cX1_save 21 = .ok (.getfield 18, 3) := by decide +kernel
theorem dX1_save_24 : decode cX1_save 24 = .ok (.iconst 3, 1) := by decide +kernel
theorem dX1_save_25 : decode cX1_save 25 = .ok (.if_icmp .ge 12, 3) := by decide +kernel
theorem dX1_save_28 : decode cX1_save 28 = .ok (.aload_n 0, 1) := by decide +kernel
theorem dX1_save_29 : decode cX1_save 29 = .ok (.getfield 18, 3) := by decide +kernel
theorem dX1_save_32 : decode cX1_save 32 = .ok (.iconst 1, 1) := by decide +kernel
theorem dX1_save_33 : decode cX1_save 33 = .ok (.iadd, 1) := by decide +kernel
theorem dX1_save_34 : decode cX1_save 34 = .ok (.goto 4, 3) := by decide +kernel
theorem dX1_save_37 : decode cX1_save 37 = .ok (.iconst 0, 1) := by decide +kernel
theorem dX1_save_38 : decode cX1_save 38 = .ok (.putfield 18, 3) := by decide +kernel
theorem dX1_save_41 : decode cX1_save 41 = .ok (.aload_n 0, 1) := by decide +kernel
theorem dX1_save_42 : decode cX1_save 42 = .ok (.aload_n 0, 1) := by decide +kernel
theorem dX1_save_43 : decode cX1_save 43 = .ok (.getfield 30, 3) := by decide +kernel
theorem dX1_save_46 : decode cX1_save 46 = .ok (.iconst 1, 1) := by decide +kernel
theorem dX1_save_47 : decode cX1_save 47 = .ok (.iadd, 1) := by decide +kernel
theorem dX1_save_48 : decode cX1_save 48 = .ok (.iconst 4, 1) := by decide +kernel
theorem dX1_save_49 : decode cX1_save 49 = .ok (.invokestatic 33, 3) := by decide +kernel
theorem dX1_save_52 : decode cX1_save 52 = .ok (.putfield 30, 3) := by decide +kernel
theorem dX1_save_55 : decode cX1_save 55 = .ok (.return_, 1) := by decide +kernel
theorem dX1_restore_0 : decode cX1_restore 0 = .ok (.aload_n 0, 1) := by decide +kernel
theorem dX1_restore_1 : decode cX1_restore 1 = .ok (.getfield 18, 3) := by decide +kernel
theorem dX1_restore_4 : decode cX1_restore 4 = .ok (.ifCond .le 12, 3) := by decide +kernel
theorem dX1_restore_7 : decode cX1_restore 7 = .ok (.aload_n 0, 1) := by decide +kernel
theorem dX1_restore_8 : decode cX1_restore 8 = .ok (.getfield 18, 3) := by decide +kernel
theorem dX1_restore_11 : decode cX1_restore 11 = .ok (.iconst 1, 1) := by decide +kernel
theorem dX1_restore_12 : decode cX1_restore 12 = .ok (.isub, 1) := by decide +kernel
theorem dX1_restore_13 : decode cX1_restore 13 = .ok (.goto 4, 3) := by decide +kernel
theorem dX1_restore_16 : decode cX1_restore 16 = .ok (.iconst 3, 1) := by decide +kernel
theorem dX1_restore_17 : decode cX1_restore 17 = .ok (.istore_n 2, 1) := by decide +kernel
theorem dX1_restore_18 : decode cX1_restore 18 = .ok (.aload_n 0, 1) := by decide +kernel
theorem dX1_restore_19 : decode cX1_restore 19 = .ok (.iload_n 2, 1) := by decide +kernel
theorem dX1_restore_20 : decode cX1_restore 20 = .ok (.invokevirtual 22, 3) := by decide +kernel
theorem dX1_restore_23 : decode cX1_restore 23 = .ok (.astore_n 3, 1) := by decide +kernel
theorem dX1_restore_24 : decode cX1_restore 24 = .ok (.aload_n 3, 1) := by decide +kernel
theorem dX1_restore_25 : decode cX1_restore 25 = .ok (.ifnull 10, 3) := by decide +kernel
theorem dX1_restore_28 : decode cX1_restore 28 = .ok (.aload_n 0, 1) := by decide +kernel
theorem dX1_restore_29 : decode cX1_restore 29 = .ok (.getfield 30, 3) := by decide +kernel
theorem dX1_restore_32 : decode cX1_restore 32 = .ok (.ifCond .ne 4, 3) := by decide +kernel
theorem dX1_restore_35 : decode cX1_restore 35 = .ok (.return_, 1) := by decide +kernel
theorem dX1_restore_36 : decode cX1_restore 36 = .ok (.aload_n 1, 1) := by decide +kernel
theorem dX1_restore_37 : decode cX1_restore 37 = .ok (.aload_n 3, 1) := by decide +kernel
theorem dX1_restore_38 : decode cX1_restore 38 = .ok (.invokevirtual 26, 3) := by decide +kernel
theorem dX1_restore_41 : decode cX1_restore 41 = .ok (.aload_n 0, 1) := by decide +kernel
theorem dX1_restore_42 : decode cX1_restore 42 = .ok (.iload_n 2, 1) := by decide +kernel
theorem dX1_restore_43 : decode cX1_restore 43 = .ok (.putfield 18, 3) := by decide +kernel
theorem dX1_restore_46 : decode cX1_restore 46 = .ok (.aload_n 0, 1) := by decide +kernel
theorem dX1_restore_47 : decode cX1_restore 47 = .ok (.dup, 1) := by decide +kernel
theorem dX1_restore_48 : decode cX1_restore 48 = .ok (.getfield 30, 3) := by decide +kernel
theorem dX1_restore_51 : decode cX1_restore 51 = .ok (.iconst 1, 1) := by decide +kernel
theorem dX1_restore_52 : decode cX1_restore 52 = .ok (.isub, 1) := by decide +kernel
theorem dX1_restore_53 : decode cX1_restore 53 = .ok (.putfield 30, 3) := by decide +kernel
theorem dX1_restore_56 : decode cX1_restore 56 = .ok (.return_, 1) := by decide +kernel
theorem dX1_savedAt_0 : decode cX1_savedAt 0 = .ok (.iload_n 1, 1) := by decide +kernel
theorem dX1_savedAt_1 : decode cX1_savedAt 1 = .ok (.ifCond .lt 21, 3) := by decide +kernel
theorem dX1_savedAt_4 : decode cX1_savedAt 4 = .ok (.iload_n 1, 1) := by decide +kernel
theorem dX1_savedAt_5 : decode cX1_savedAt 5 = .ok (.aload_n 0, 1) := by decide +kernel
theorem dX1_savedAt_6 : decode cX1_savedAt 6 = .ok (.getfield 11, 3) := by decide +kernel
theorem dX1_savedAt_9 : decode cX1_savedAt 9 = .ok (.arraylength, 1) := by decide +kernel
theorem dX1_savedAt_10 : decode cX1_savedAt 10 = .ok (.if_icmp .ge 12, 3) := by decide +kernel
theorem dX1_savedAt_13 : decode cX1_savedAt 13 = .ok (.aload_n 0, 1) := by decide +kernel
theorem dX1_savedAt_14 : decode cX1_savedAt 14 = .ok (.getfield 11, 3) := by decide +kernel
theorem dX1_savedAt_17 : decode cX1_savedAt 17 = .ok (.iload_n 1, 1) := by decide +kernel
theorem dX1_savedAt_18 : decode cX1_savedAt 18 = .ok (.aaload, 1) := by decide +kernel
theorem dX1_savedAt_19 : decode cX1_savedAt 19 = .ok (.goto 4, 3) := by decide +kernel
theorem dX1_savedAt_22 : decode cX1_savedAt 22 = .ok (.aconst_null, 1) := by decide +kernel
theorem dX1_savedAt_23 : decode cX1_savedAt 23 = .ok (.areturn, 1) := by decide +kernel
end
section
theorem dX2_init_0 : decode cX2_init 0 = .ok (.aload_n 0, 1) := by decide +kernel
theorem dX2_init_1 : decode cX2_init 1 = .ok (.invokespecial 3, 3) := by decide +kernel
theorem dX2_init_4 : decode cX2_init 4 = .ok (.aload_n 0, 1) := by decide +kernel
theorem dX2_init_5 : decode cX2_init 5 = .ok (.new 9, 3) := by decide +kernel
theorem dX2_init_8 : decode cX2_init 8 = .ok (.dup, 1) := by decide +kernel
theorem dX2_init_9 : decode cX2_init 9 = .ok (.bipush 96, 2) := by decide +kernel
theorem dX2_init_11 : decode cX2_init 11 = .ok (.invokespecial 11, 3) := by decide +kernel
theorem dX2_init_14 : decode cX2_init 14 = .ok (.putfield 14, 3) := by decide +kernel
theorem dX2_init_17 : decode cX2_init 17 = .ok (.aload_n 0, 1) := by decide +kernel
theorem dX2_init_18 : decode cX2_init 18 = .ok (.new 9, 3) := by decide +kernel
theorem dX2_init_21 : decode cX2_init 21 = .ok (.dup, 1) := by decide +kernel
theorem dX2_init_22 : decode cX2_init 22 = .ok (.bipush 96, 2) := by decide +kernel
theorem dX2_init_24 : decode cX2_init 24 = .ok (.invokespecial 11, 3) := by decide +kernel
theorem dX2_init_27 : decode cX2_init 27 = .ok (.putfield 20, 3) := by decide +kernel
theorem dX2_init_30 : decode cX2_init 30 = .ok (.aload_n 0, 1) := by decide +kernel
theorem dX2_init_31 : decode cX2_init 31 = .ok (.new 9, 3) := by decide +kernel
theorem dX2_init_34 : decode cX2_init 34 = .ok (.dup, 1) := by decide +kernel
theorem dX2_init_35 : decode cX2_init 35 = .ok (.bipush 97, 2) := by decide +kernel
theorem dX2_init_37 : decode cX2_init 37 = .ok (.invokespecial 11, 3) := by decide +kernel
theorem dX2_init_40 : decode cX2_init 40 = .ok (.putfield 23, 3) := by decide +kernel
theorem dX2_init_43 : decode cX2_init 43 = .ok (.aload_n 0, 1) := by decide +kernel
theorem dX2_init_44 : decode cX2_init 44 = .ok (.new 9, 3) := by decide +kernel
theorem dX2_init_47 : decode cX2_init 47 = .ok (.dup, 1) := by decide +kernel
theorem dX2_init_48 : decode cX2_init 48 = .ok (.bipush 97, 2) := by decide +kernel
theorem dX2_init_50 : decode cX2_init 50 = .ok (.invokespecial 11, 3) := by decide +kernel
theorem dX2_init_53 : decode cX2_init 53 = .ok (.putfield 26, 3) := by decide +kernel
theorem dX2_init_56 : decode cX2_init 56 = .ok (.aload_n 0, 1) := by decide +kernel
theorem dX2_init_57 : decode cX2_init 57 = .ok (.new 9, 3) := by decide +kernel
theorem dX2_init_60 : decode cX2_init 60 = .ok (.dup, 1) := by decide +kernel
theorem dX2_init_61 : decode cX2_init 61 = .ok (.bipush 97, 2) := by decide +kernel
theorem dX2_init_63 : decode cX2_init 63 = .ok (.invokespecial 11, 3) := by decide +kernel
theorem dX2_init_66 : decode cX2_init 66 = .ok (.putfield 29, 3) := by decide +kernel
theorem dX2_init_69 : decode cX2_init 69 = .ok (.aload_n 0, 1) := by decide +kernel
theorem dX2_init_70 : decode cX2_init 70 = .ok (.getfield 23, 3) := by decide +kernel
theorem dX2_init_73 : decode cX2_init 73 = .ok (.iconst 0, 1) := by decide +kernel
theorem dX2_init_74 : decode cX2_init 74 = .ok (.invokevirtual 32, 3) := by decide +kernel
theorem dX2_init_77 : decode cX2_init 77 = .ok (.aload_n 0, 1) := by decide +kernel
theorem dX2_init_78 : decode cX2_init 78 = .ok (.getfield 26, 3) := by decide +kernel
theorem dX2_init_81 : decode cX2_init 81 = .ok (.iconst 0, 1) := by decide +kernel
theorem dX2_init_82 : decode cX2_init 82 = .ok (.invokevirtual 32, 3) := by decide +kernel
theorem dX2_init_85 : decode cX2_init 85 = .ok (.aload_n 0, 1) := by decide +kernel
theorem dX2_init_86 : decode cX2_init 86 = .ok (.getfield 29, 3) := by decide +kernel
theorem dX2_init_89 : decode cX2_init 89 = .ok (.iconst 0, 1) := by decide +kernel
theorem dX2_init_90 : decode cX2_init 90 = .ok (.invokevirtual 32, 3) := by decide +kernel
theorem dX2_init_93 : decode cX2_init 93 = .ok (.return_, 1) := by decide +kernel
theorem dX2_size_0 : decode cX2_size 0 = .ok (.aload_n 0, 1) := by decide +kernel
theorem dX2_size_1 : decode cX2_size 1 = .ok (.getfield 14, 3) := by decide +kernel
theorem dX2_size_4 : decode cX2_size 4 = .ok (.invokevirtual 35, 3) := by decide +kernel
theorem dX2_size_7 : decode cX2_size 7 = .ok (.ireturn, 1) := by decide +kernel
theorem dX2_bridgeOf_0 : decode cX2_bridgeOf 0 = .ok (.iload_n 2, 1) := by decide +kernel
theorem dX2_bridgeOf_1 : decode cX2_bridgeOf 1 = .ok (.ifCond .ne 10, 3) := by decide +kernel
theorem dX2_bridgeOf_4 : decode cX2_bridgeOf 4 = .ok (.aload_n 0, 1) := by decide +kernel
theorem dX2_bridgeOf_5 : decode cX2_bridgeOf 5 = .ok (.getfield 23, 3) := by decide +kernel
theorem dX2_bridgeOf_8 : decode cX2_bridgeOf 8 = .ok (.goto 19, 3) := by decide +kernel
theorem dX2_bridgeOf_11 : decode cX2_bridgeOf 11 = .ok (.iload_n 2, 1) := by decide +kernel
theorem dX2_bridgeOf_12 : decode cX2_bridgeOf 12 = .ok (.iconst 1, 1) := by decide +kernel
theorem dX2_bridgeOf_13 : decode cX2_bridgeOf 13 = .ok (.if_icmp .ne 10, 3) := by decide +kernel
theorem dX2_bridgeOf_16 : decode cX2_bridgeOf 16 = .ok (.aload_n 0, 1) := by decide +kernel
theorem dX2_bridgeOf_17 : decode cX2_bridgeOf 17 = .ok (.getfield 26, 3) := by decide +kernel
theorem dX2_bridgeOf_20 : decode cX2_bridgeOf 20 = .ok (.goto 7, 3) := by decide +kernel
theorem dX2_bridgeOf_23 : decode cX2_bridgeOf 23 = .ok (.aload_n 0, 1) := by decide +kernel
theorem dX2_bridgeOf_24 : decode cX2_bridgeOf 24 = .ok (.getfield 29, 3) := by decide +kernel
theorem dX2_bridgeOf_27 : decode cX2_bridgeOf 27 = .ok (.astore_n 3, 1) := by decide +kernel
theorem dX2_bridgeOf_28 : decode cX2_bridgeOf 28 = .ok (.aload_n 3, 1) := by decide +kernel
theorem dX2_bridgeOf_29 : decode cX2_bridgeOf 29 = .ok (.iload_n 1, 1) := by decide +kernel
theorem dX2_bridgeOf_30 : decode cX2_bridgeOf 30 = .ok (.iconst 0, 1) := by decide +kernel
theorem dX2_bridgeOf_31 : decode cX2_bridgeOf 31 = .ok (.invokevirtual 39, 3) := by decide +kernel
theorem dX2_bridgeOf_34 : decode cX2_bridgeOf 34 = .ok (.ireturn, 1) := by decide +kernel
theorem dX2_build_0 : decode cX2_build 0 = .ok (.aload_n 0, 1) := by decide +kernel
theorem dX2_build_1 : decode cX2_build 1 = .ok (.getfield 14, 3) := by decide +kernel
theorem dX2_build_4 : decode cX2_build 4 = .ok (.iconst 0, 1) := by decide +kernel
theorem dX2_build_5 : decode cX2_build 5 = .ok (.invokevirtual 43, 3) := by decide +kernel
theorem dX2_build_8 : decode cX2_build 8 = .ok (.aload_n 0, 1) := by decide +kernel
theorem dX2_build_9 : decode cX2_build 9 = .ok (.getfield 20, 3) := by decide +kernel
theorem dX2_build_12 : decode cX2_build 12 = .ok (.iconst 0, 1) := by decide +kernel
theorem dX2_build_13 : decode cX2_build 13 = .ok (.invokevirtual 43, 3) := by decide +kernel
theorem dX2_build_16 : decode cX2_build 16 = .ok (.iconst 0, 1) := by decide +kernel
theorem dX2_build_17 : decode cX2_build 17 = .ok (.istore 5, 2) := by decide +kernel
theorem dX2_build_19 : decode cX2_build 19 = .ok (.iload 4, 2) := by decide +kernel
theorem dX2_build_21 : decode cX2_build 21 = .ok (.iconst 1, 1) := by decide +kernel
theorem dX2_build_22 : decode cX2_build 22 = .ok (.isub, 1) := by decide +kernel
theorem dX2_build_23 : decode cX2_build 23 = .ok (.istore 6, 2) := by decide +kernel
theorem dX2_build_25 : decode cX2_build 25 = .ok (.iload 4, 2) := by decide +kernel
theorem dX2_build_27 : decode cX2_build 27 = .ok (.iconst 1, 1) := by decide +kernel
theorem dX2_build_28 : decode cX2_build 28 = .ok (.isub, 1) := by decide +kernel
theorem dX2_build_29 : decode cX2_build 29 = .ok (.istore 7, 2) := by decide +kernel
theorem dX2_build_31 : decode cX2_build 31 = .ok (.aload_n 1, 1) := by decide +kernel
theorem dX2_build_32 : decode cX2_build 32 = .ok (.invokevirtual 35, 3) := by decide +kernel
theorem dX2_build_35 : decode cX2_build 35 = .ok (.aload_n 2, 1) := by decide +kernel
theorem dX2_build_36 : decode cX2_build 36 = .ok (.invokevirtual 35, 3) := by decide +kernel
theorem dX2_build_39 : decode cX2_build 39 = .ok (.iadd, 1) := by decide +kernel
theorem dX2_build_40 : decode cX2_build 40 = .ok (.aload_n 3, 1) := by decide +kernel
theorem dX2_build_41 : decode cX2_build 41 = .ok (.invokevirtual 35, 3) := by decide +kernel
theorem dX2_build_44 : decode cX2_build 44 = .ok (.iadd, 1) := by decide +kernel
theorem dX2_build_45 : decode cX2_build 45 = .ok (.istore 8, 2) := by decide +kernel
theorem dX2_build_47 : decode cX2_build 47 = .ok (.iconst 0, 1) := by decide +kernel
theorem dX2_build_48 : decode cX2_build 48 = .ok (.istore 9, 2) := by decide +kernel
theorem dX2_build_50 : decode cX2_build 50 = .ok (.iload 9, 2) := by decide +kernel
theorem dX2_build_52 : decode cX2_build 52 = .ok (.iload 8, 2) := by decide +kernel
theorem dX2_build_54 : decode cX2_build 54 = .ok (.if_icmp .ge 137, 3) := by decide +kernel
theorem dX2_build_57 : decode cX2_build 57 = .ok (.aload_n 1, 1) := by decide +kernel
theorem dX2_build_58 : decode cX2_build 58 = .ok (.iload 5, 2) := by decide +kernel
theorem dX2_build_60 : decode cX2_build 60 = .ok (.sipush 10000, 3) := by decide +kernel
theorem dX2_build_63 : decode cX2_build 63 = .ok (.invokevirtual 39, 3) := by decide +kernel
theorem dX2_build_66 : decode cX2_build 66 = .ok (.istore 10, 2) := by decide +kernel
theorem dX2_build_68 : decode cX2_build 68 = .ok (.aload_n 2, 1) := by decide +kernel
theorem dX2_build_69 : decode cX2_build 69 = .ok (.iload 6, 2) := by decide +kernel
theorem dX2_build_71 : decode cX2_build 71 = .ok (.sipush 10000, 3) := by decide +kernel
theorem dX2_build_74 : decode cX2_build 74 = .ok (.invokevirtual 39, 3) := by decide +kernel
theorem dX2_build_77 : decode cX2_build 77 = .ok (.istore 11, 2) := by decide +kernel
theorem dX2_build_79 : decode cX2_build 79 = .ok (.aload_n 3, 1) := by decide +kernel
theorem dX2_build_80 : decode cX2_build 80 = .ok (.iload 7, 2) := by decide +kernel
theorem dX2_build_82 : decode cX2_build 82 = .ok (.sipush 10000, 3) := by decide +kernel
theorem dX2_build_85 : decode cX2_build 85 = .ok (.invokevirtual 39, 3) := by decide +kernel
theorem dX2_build_88 : decode cX2_build 88 = .ok (.istore 12, 2) := by decide +kernel
theorem dX2_build_90 : decode cX2_build 90 = .ok (.iload 10, 2) := by decide +kernel
theorem dX2_build_92 : decode cX2_build 92 = .ok (.iload 11, 2) := by decide +kernel
theorem dX2_build_94 : decode cX2_build 94 = .ok (.iload 12, 2) := by decide +kernel
theorem dX2_build_96 : decode cX2_build 96 = .ok (.invokestatic 46, 3) := by decide +kernel
theorem dX2_build_99 : decode cX2_build 99 = .ok (.invokestatic 46, 3) := by decide +kernel
theorem dX2_build_102 : decode cX2_build 102 = .ok (.istore 13, 2) := by decide +kernel
theorem dX2_build_104 : decode cX2_build 104 = .ok (.iload 13, 2) := by decide +kernel
theorem dX2_build_106 : decode cX2_build 106 = .ok (.sipush 10000, 3) := by decide +kernel
theorem dX2_build_109 : decode cX2_build 109 = .ok (.if_icmp .ne 6, 3) := by decide +kernel
theorem dX2_build_112 : decode cX2_build 112 = .ok (.goto 79, 3) := by decide +kernel
theorem dX2_build_115 : decode cX2_build 115 = .ok (.aload_n 0, 1) := by decide +kernel
theorem dX2_build_116 : decode cX2_build 116 = .ok (.getfield 14, 3) := by decide +kernel
theorem dX2_build_119 : decode cX2_build 119 = .ok (.iload 13, 2) := by decide +kernel
theorem dX2_build_121 : decode cX2_build 121 = .ok (.invokevirtual 32, 3) := by decide +kernel
theorem dX2_build_124 : decode cX2_build 124 = .ok (.iload 10, 2) := by decide +kernel
theorem dX2_build_126 : decode cX2_build 126 = .ok (.iload 13, 2) := by decide +kernel
theorem dX2_build_128 : decode cX2_build 128 = .ok (.if_icmp .ne 17, 3) := by decide +kernel
theorem dX2_build_131 : decode cX2_build 131 = .ok (.aload_n 0, 1) := by decide +kernel
theorem dX2_build_132 : decode cX2_build 132 = .ok (.getfield 20, 3) := by decide +kernel
theorem dX2_build_135 : decode cX2_build 135 = .ok (.iconst 0, 1) := by decide +kernel
theorem dX2_build_136 : decode cX2_build 136 = .ok (.invokevirtual 32, 3) := by decide +kernel
theorem dX2_build_139 : decode cX2_build 139 = .ok (.iinc 5 1, 3) := by decide +kernel
theorem dX2_build_142 : decode cX2_build 142 = .ok (.goto 43, 3) := by decide +kernel
theorem dX2_build_145 : decode cX2_build 145 = .ok (.iload 11, 2) := by decide +kernel
theorem dX2_build_147 : decode cX2_build 147 = .ok (.iload 13, 2) := by decide +kernel
theorem dX2_build_149 : decode cX2_build 149 = .ok (.if_icmp .ne 21, 3) := by decide +kernel
theorem dX2_build_152 : decode cX2_build 152 = .ok (.aload_n 0, 1) := by decide +kernel
theorem dX2_build_153 : decode cX2_build 153 = .ok (.getfield 20, 3) := by decide +kernel
theorem dX2_build_156 : decode cX2_build 156 = .ok (.iconst 1, 1) := by decide +kernel
theorem dX2_build_157 : decode cX2_build 157 = .ok (.invokevirtual 32, 3) := by decide +kernel
theorem dX2_build_160 : decode cX2_build 160 = .ok (.iload 6, 2) := by decide +kernel
theorem dX2_build_162 : decode cX2_build 162 = .ok (.iload 4, 2) := by decide +kernel
theorem dX2_build_164 : decode cX2_build 164 = .ok (.iadd, 1) := by decide +kernel
theorem dX2_build_165 : decode cX2_build 165 = .ok (.istore 6, 2) := by decide +kernel
theorem dX2_build_167 : decode cX2_build 167 = .ok (.goto 18, 3) := by decide +kernel
theorem dX2_build_170 : decode cX2_build 170 = .ok (.aload_n 0, 1) := by decide +kernel
theorem dX2_build_171 : decode cX2_build 171 = .ok (.getfield 20, 3) := by decide +kernel
theorem dX2_build_174 : decode cX2_build 174 = .ok (.iconst 2, 1) := by decide +kernel
theorem dX2_build_175 : decode cX2_build 175 = .ok (.invokevirtual 32, 3) := by decide +kernel
theorem dX2_build_178 : decode cX2_build 178 = .ok (.iload 7, 2) := by decide +kernel
theorem dX2_build_180 : decode cX2_build 180 = .ok (.iload 4, 2) := by decide +kernel
theorem dX2_build_182 : decode cX2_build 182 = .ok (.iadd, 1) := by decide +kernel
theorem dX2_build_183 : decode cX2_build 183 = .ok (.istore 7, 2) := by decide +kernel
theorem dX2_build_185 : decode cX2_build 185 = .ok (.iinc 9 1, 3) := by decide +kernel
theorem dX2_build_188 : decode cX2_build 188 = .ok (.goto (-138), 3) := by decide +kernel
theorem dX2_build_191 : decode cX2_build 191 = .ok (.aload_n 0, 1) := by decide +kernel
theorem dX2_build_192 : decode cX2_build 192 = .ok (.aload_n 0, 1) := by decide +kernel
theorem dX2_build_193 : decode cX2_build 193 = .ok (.getfield 23, 3) := by decide +kernel
theorem dX2_build_196 : decode cX2_build 196 = .ok (.aload_n 1, 1) := by decide +kernel
theorem dX2_build_197 : decode cX2_build 197 = .ok (.invokevirtual 51, 3) := by decide +kernel
theorem dX2_build_200 : decode cX2_build 200 = .ok (.aload_n 0, 1) := by decide +kernel
theorem dX2_build_201 : decode cX2_build 201 = .ok (.aload_n 0, 1) := by decide +kernel
theorem dX2_build_202 : decode cX2_build 202 = .ok (.getfield 26, 3) := by decide +kernel
theorem dX2_build_205 : decode cX2_build 205 = .ok (.aload_n 2, 1) := by decide +kernel
theorem dX2_build_206 : decode cX2_build 206 = .ok (.invokevirtual 51, 3) := by decide +kernel
theorem dX2_build_209 : decode cX2_build 209 = .ok (.aload_n 0, 1) := by decide +kernel
theorem dX2_build_210 : decode cX2_build 210 = .ok (.aload_n 0, 1) := by decide +kernel
theorem dX2_build_211 : decode cX2_build 211 = .ok (.getfield 29, 3) := by decide +kernel
theorem dX2_build_214 : decode cX2_build 214 = .ok (.aload_n 3, 1) := by decide +kernel
theorem dX2_build_215 : decode cX2_build 215 = .ok (.invokevirtual 51, 3) := by decide +kernel
theorem dX2_build_218 : decode cX2_build 218 = .ok (.return_, 1) := by decide +kernel
theorem dX2_layBridges_0 : decode cX2_layBridges 0 = .ok (.aload_n 1, 1) := by decide +kernel
theorem dX2_layBridges_1 : decode cX2_layBridges 1 = .ok (.iconst 0, 1) := by decide +kernel
theorem dX2_layBridges_2 : decode cX2_layBridges 2 = .ok (.invokevirtual 43, 3) := by decide +kernel
theorem dX2_layBridges_5 : decode cX2_layBridges 5 = .ok (.iconst 0, 1) := by decide +kernel
theorem dX2_layBridges_6 : decode cX2_layBridges 6 = .ok (.istore_n 3, 1) := by decide +kernel
theorem dX2_layBridges_7 : decode cX2_layBridges 7 = .ok (.iconst 0, 1) := by decide +kernel
theorem dX2_layBridges_8 : decode cX2_layBridges 8 = .ok (.istore 4, 2) := by decide +kernel
theorem dX2_layBridges_10 : decode cX2_layBridges 10 = .ok (.iload 4, 2) := by decide +kernel
theorem dX2_layBridges_12 : decode cX2_layBridges 12 = .ok (.aload_n 0, 1) := by decide +kernel
theorem dX2_layBridges_13 : decode cX2_layBridges 13 = .ok (.getfield 14, 3) := by decide +kernel
theorem dX2_layBridges_16 : decode cX2_layBridges 16 = .ok (.invokevirtual 35, 3) := by decide +kernel
theorem dX2_layBridges_19 : decode cX2_layBridges 19 = .ok (.if_icmp .gt 32, 3) := by decide +kernel
theorem dX2_layBridges_22 : decode cX2_layBridges 22 = .ok (.aload_n 2, 1) := by decide +kernel
theorem dX2_layBridges_23 : decode cX2_layBridges 23 = .ok (.aload_n 0, 1) := by decide +kernel
theorem dX2_layBridges_24 : decode cX2_layBridges 24 = .ok (.getfield 14, 3) := by decide +kernel
theorem dX2_layBridges_27 : decode cX2_layBridges 27 = .ok (.iload 4, 2) := by decide +kernel
theorem dX2_layBridges_29 : decode cX2_layBridges 29 = .ok (.sipush 10000, 3) := by decide +kernel
theorem dX2_layBridges_32 : decode cX2_layBridges 32 = .ok (.invokevirtual 39, 3) := by decide +kernel
theorem dX2_layBridges_35 : decode cX2_layBridges 35 = .ok (.iload_n 3, 1) := by decide +kernel
theorem dX2_layBridges_36 : decode cX2_layBridges 36 = .ok (.invokevirtual 55, 3) := by decide +kernel
theorem dX2_layBridges_39 : decode cX2_layBridges 39 = .ok (.istore_n 3, 1) := by decide +kernel
theorem dX2_layBridges_40 : decode cX2_layBridges 40 = .ok (.aload_n 1, 1) := by decide +kernel
theorem dX2_layBridges_41 : decode cX2_layBridges 41 = .ok (.iload_n 3, 1) := by decide +kernel
theorem dX2_layBridges_42 : decode cX2_layBridges 42 = .ok (.invokevirtual 32, 3) := by decide +kernel
theorem dX2_layBridges_45 : decode cX2_layBridges 45 = .ok (.iinc 4 1, 3) := by decide +kernel
theorem dX2_layBridges_48 : decode cX2_layBridges 48 = .ok (.goto (-38), 3) := by decide +kernel
theorem dX2_layBridges_51 : decode cX2_layBridges 51 = .ok (.return_, 1) := by decide +kernel
theorem dX2_copyFrom_0 : decode cX2_copyFrom 0 = .ok (.aload_n 0, 1) := by decide +kernel
theorem dX2_copyFrom_1 : decode cX2_copyFrom 1 = .ok (.getfield 14, 3) := by decide +kernel
theorem dX2_copyFrom_4 : decode cX2_copyFrom 4 = .ok (.aload_n 1, 1) := by decide +kernel
theorem dX2_copyFrom_5 : decode cX2_copyFrom 5 = .ok (.getfield 14, 3) := by decide +kernel
theorem dX2_copyFrom_8 : decode cX2_copyFrom 8 = .ok (.invokevirtual 58, 3) := by decide +kernel
theorem dX2_copyFrom_11 : decode cX2_copyFrom 11 = .ok (.aload_n 0, 1) := by decide +kernel
theorem dX2_copyFrom_12 : decode cX2_copyFrom 12 = .ok (.getfield 20, 3) := by decide +kernel
theorem dX2_copyFrom_15 : decode cX2_copyFrom 15 = .ok (.aload_n 1, 1) := by decide +kernel
theorem dX2_copyFrom_16 : decode cX2_copyFrom 16 = .ok (.getfield 20, 3) := by decide +kernel
theorem dX2_copyFrom_19 : decode cX2_copyFrom 19 = .ok (.invokevirtual 58, 3) := by decide +kernel
theorem dX2_copyFrom_22 : decode cX2_copyFrom 22 = .ok (.aload_n 0, 1) := by decide +kernel
theorem dX2_copyFrom_23 : decode cX2_copyFrom 23 = .ok (.getfield 23, 3) := by decide +kernel
theorem dX2_copyFrom_26 : decode cX2_copyFrom 26 = .ok (.aload_n 1, 1) := by decide +kernel
theorem dX2_copyFrom_27 : decode cX2_copyFrom 27 = .ok (.getfield 23, 3) := by decide +kernel
theorem dX2_copyFrom_30 : decode cX2_copyFrom 30 = .ok (.invokevirtual 58, 3) := by decide +kernel
theorem dX2_copyFrom_33 : decode cX2_copyFrom 33 = .ok (.aload_n 0, 1) := by decide +kernel
theorem dX2_copyFrom_34 : decode cX2_copyFrom 34 = .ok (.getfield 26, 3) := by decide +kernel
theorem dX2_copyFrom_37 : decode cX2_copyFrom 37 = .ok (.aload_n 1, 1) := by decide +kernel
theorem dX2_copyFrom_38 : decode cX2_copyFrom 38 = .ok (.getfield 26, 3) := by decide +kernel
theorem dX2_copyFrom_41 : decode cX2_copyFrom 41 = .ok (.invokevirtual 58, 3) := by decide +kernel
theorem dX2_copyFrom_44 : decode cX2_copyFrom 44 = .ok (.aload_n 0, 1) := by decide +kernel
theorem dX2_copyFrom_45 : decode cX2_copyFrom 45 = .ok (.getfield 29, 3) := by decide +kernel
theorem dX2_copyFrom_48 : decode cX2_copyFrom 48 = .ok (.aload_n 1, 1) := by decide +kernel
theorem dX2_copyFrom_49 : decode cX2_copyFrom 49 = .ok (.getfield 29, 3) := by decide +kernel
theorem dX2_copyFrom_52 : decode cX2_copyFrom 52 = .ok (.invokevirtual 58, 3) := by decide +kernel
theorem dX2_copyFrom_55 : decode cX2_copyFrom 55 = .ok (.return_, 1) := by decide +kernel
end
section
theorem dX3_init_0 : decode cX3_init 0 = .ok (.aload_n 0, 1) := by decide +kernel
theorem dX3_init_1 : decode cX3_init 1 = .ok (.invokespecial 3, 3) := by decide +kernel
theorem dX3_init_4 : decode cX3_init 4 = .ok (.aload_n 0, 1) := by decide +kernel
theorem dX3_init_5 : decode cX3_init 5 = .ok (.iload_n 1, 1) := by decide +kernel
theorem dX3_init_6 : decode cX3_init 6 = .ok (.ifCond .le 7, 3) := by decide +kernel
theorem dX3_init_9 : decode cX3_init 9 = .ok (.iload_n 1, 1) := by decide +kernel
theorem dX3_init_10 : decode cX3_init 10 = .ok (.goto 4, 3) := by decide +kernel
theorem dX3_init_13 : decode cX3_init 13 = .ok (.iconst 0, 1) := by decide +kernel
theorem dX3_init_14 : decode cX3_init 14 = .ok (.newarray .int, 2) := by decide +kernel
theorem dX3_init_16 : decode cX3_init 16 = .ok (.putfield 9, 3) := by decide +kernel
theorem dX3_init_19 : decode cX3_init 19 = .ok (.return_, 1) := by decide +kernel
theorem dX3_size_0 : decode cX3_size 0 = .ok (.aload_n 0, 1) := by decide +kernel
theorem dX3_size_1 : decode cX3_size 1 = .ok (.getfield 15, 3) := by decide +kernel
theorem dX3_size_4 : decode cX3_size 4 = .ok (.ireturn, 1) := by decide +kernel
theorem dX3_at_0 : decode cX3_at 0 = .ok (.iload_n 1, 1) := by decide +kernel
theorem dX3_at_1 : decode cX3_at 1 = .ok (.ifCond .lt 29, 3) := by decide +kernel
theorem dX3_at_4 : decode cX3_at 4 = .ok (.iload_n 1, 1) := by decide +kernel
theorem dX3_at_5 : decode cX3_at 5 = .ok (.aload_n 0, 1) := by decide +kernel
theorem dX3_at_6 : decode cX3_at 6 = .ok (.getfield 15, 3) := by decide +kernel
theorem dX3_at_9 : decode cX3_at 9 = .ok (.if_icmp .ge 21, 3) := by decide +kernel
theorem dX3_at_12 : decode cX3_at 12 = .ok (.iload_n 1, 1) := by decide +kernel
theorem dX3_at_13 : decode cX3_at 13 = .ok (.aload_n 0, 1) := by decide +kernel
theorem dX3_at_14 : decode cX3_at 14 = .ok (.getfield 9, 3) := by decide +kernel
theorem dX3_at_17 : decode cX3_at 17 = .ok (.arraylength, 1) := by decide +kernel
theorem dX3_at_18 : decode cX3_at 18 = .ok (.if_icmp .ge 12, 3) := by decide +kernel
theorem dX3_at_21 : decode cX3_at 21 = .ok (.aload_n 0, 1) := by decide +kernel
theorem dX3_at_22 : decode cX3_at 22 = .ok (.getfield 9, 3) := by decide +kernel
theorem dX3_at_25 : decode cX3_at 25 = .ok (.iload_n 1, 1) := by decide +kernel
theorem dX3_at_26 : decode cX3_at 26 = .ok (.iaload, 1) := by decide +kernel
theorem dX3_at_27 : decode cX3_at 27 = .ok (.goto 4, 3) := by decide +kernel
theorem dX3_at_30 : decode cX3_at 30 = .ok (.iload_n 2, 1) := by decide +kernel
theorem dX3_at_31 : decode cX3_at 31 = .ok (.ireturn, 1) := by decide +kernel
theorem dX3_put_0 : decode cX3_put 0 = .ok (.iload_n 1, 1) := by decide +kernel
theorem dX3_put_1 : decode cX3_put 1 = .ok (.ifCond .lt 27, 3) := by decide +kernel
theorem dX3_put_4 : decode cX3_put 4 = .ok (.iload_n 1, 1) := by decide +kernel
theorem dX3_put_5 : decode cX3_put 5 = .ok (.aload_n 0, 1) := by decide +kernel
theorem dX3_put_6 : decode cX3_put 6 = .ok (.getfield 15, 3) := by decide +kernel
theorem dX3_put_9 : decode cX3_put 9 = .ok (.if_icmp .ge 19, 3) := by decide +kernel
theorem dX3_put_12 : decode cX3_put 12 = .ok (.iload_n 1, 1) := by decide +kernel
theorem dX3_put_13 : decode cX3_put 13 = .ok (.aload_n 0, 1) := by decide +kernel
theorem dX3_put_14 : decode cX3_put 14 = .ok (.getfield 9, 3) := by decide +kernel
theorem dX3_put_17 : decode cX3_put 17 = .ok (.arraylength, 1) := by decide +kernel
theorem dX3_put_18 : decode cX3_put 18 = .ok (.if_icmp .ge 10, 3) := by decide +kernel
theorem dX3_put_21 : decode cX3_put 21 = .ok (.aload_n 0, 1) := by decide +kernel
theorem dX3_put_22 : decode cX3_put 22 = .ok (.getfield 9, 3) := by decide +kernel
theorem dX3_put_25 : decode cX3_put 25 = .ok (.iload_n 1, 1) := by decide +kernel
theorem dX3_put_26 : decode cX3_put 26 = .ok (.iload_n 2, 1) := by decide +kernel
theorem dX3_put_27 : decode cX3_put 27 = .ok (.iastore, 1) := by decide +kernel
theorem dX3_put_28 : decode cX3_put 28 = .ok (.return_, 1) := by decide +kernel
theorem dX3_append_0 : decode cX3_append 0 = .ok (.aload_n 0, 1) := by decide +kernel
theorem dX3_append_1 : decode cX3_append 1 = .ok (.getfield 15, 3) := by decide +kernel
theorem dX3_append_4 : decode cX3_append 4 = .ok (.ifCond .lt 35, 3) := by decide +kernel
theorem dX3_append_7 : decode cX3_append 7 = .ok (.aload_n 0, 1) := by decide +kernel
theorem dX3_append_8 : decode cX3_append 8 = .ok (.getfield 15, 3) := by decide +kernel
theorem dX3_append_11 : decode cX3_append 11 = .ok (.aload_n 0, 1) := by decide +kernel
theorem dX3_append_12 : decode cX3_append 12 = .ok (.getfield 9, 3) := by decide +kernel
theorem dX3_append_15 : decode cX3_append 15 = .ok (.arraylength, 1) := by decide +kernel
theorem dX3_append_16 : decode cX3_append 16 = .ok (.if_icmp .ge 23, 3) := by decide +kernel
theorem dX3_append_19 : decode cX3_append 19 = .ok (.aload_n 0, 1) := by decide +kernel
theorem dX3_append_20 : decode cX3_append 20 = .ok (.getfield 9, 3) := by decide +kernel
theorem dX3_append_23 : decode cX3_append 23 = .ok (.aload_n 0, 1) := by decide +kernel
theorem dX3_append_24 : decode cX3_append 24 = .ok (.getfield 15, 3) := by decide +kernel
theorem dX3_append_27 : decode cX3_append 27 = .ok (.iload_n 1, 1) := by decide +kernel
theorem dX3_append_28 : decode cX3_append 28 = .ok (.iastore, 1) := by decide +kernel
theorem dX3_append_29 : decode cX3_append 29 = .ok (.aload_n 0, 1) := by decide +kernel
theorem dX3_append_30 : decode cX3_append 30 = .ok (.dup, 1) := by decide +kernel
theorem dX3_append_31 : decode cX3_append 31 = .ok (.getfield 15, 3) := by decide +kernel
theorem dX3_append_34 : decode cX3_append 34 = .ok (.iconst 1, 1) := by decide +kernel
theorem dX3_append_35 : decode cX3_append 35 = .ok (.iadd, 1) := by decide +kernel
theorem dX3_append_36 : decode cX3_append 36 = .ok (.putfield 15, 3) := by decide +kernel
theorem dX3_append_39 : decode cX3_append 39 = .ok (.return_, 1) := by decide +kernel
theorem dX3_insert_0 : decode cX3_insert 0 = .ok (.iload_n 1, 1) := by decide +kernel
theorem dX3_insert_1 : decode cX3_insert 1 = .ok (.ifCond .lt 23, 3) := by decide +kernel
theorem dX3_insert_4 : decode cX3_insert 4 = .ok (.iload_n 1, 1) := by decide +kernel
theorem dX3_insert_5 : decode cX3_insert 5 = .ok (.aload_n 0, 1) := by decide +kernel
theorem dX3_insert_6 : decode cX3_insert 6 = .ok (.getfield 15, 3) := by decide +kernel
theorem dX3_insert_9 : decode cX3_insert 9 = .ok (.if_icmp .gt 15, 3) := by decide +kernel
theorem dX3_insert_12 : decode cX3_insert 12 = .ok (.aload_n 0, 1) := by decide +kernel
theorem dX3_insert_13 : decode cX3_insert 13 = .ok (.getfield 15, 3) := by decide +kernel
theorem dX3_insert_16 : decode cX3_insert 16 = .ok (.aload_n 0, 1) := by decide +kernel
theorem dX3_insert_17 : decode cX3_insert 17 = .ok (.getfield 9, 3) := by decide +kernel
theorem dX3_insert_20 : decode cX3_insert 20 = .ok (.arraylength, 1) := by decide +kernel
theorem dX3_insert_21 : decode cX3_insert 21 = .ok (.if_icmp .lt 4, 3) := by decide +kernel
theorem dX3_insert_24 : decode cX3_insert 24 = .ok (.return_, 1) := by decide +kernel
theorem dX3_insert_25 : decode cX3_insert 25 = .ok (.aload_n 0, 1) := by decide +kernel
theorem dX3_insert_26 : decode cX3_insert 26 = .ok (.dup, 1) := by decide +kernel
theorem dX3_insert_27 : decode cX3_insert 27 = .ok (.getfield 15, 3) := by decide +kernel
theorem dX3_insert_30 : decode cX3_insert 30 = .ok (.iconst 1, 1) := by decide +kernel
theorem dX3_insert_31 : decode cX3_insert 31 = .ok (.iadd, 1) := by decide +kernel
theorem dX3_insert_32 : decode cX3_insert 32 = .ok (.putfield 15, 3) := by decide +kernel
theorem dX3_insert_35 : decode cX3_insert 35 = .ok (.aload_n 0, 1) := by decide +kernel
theorem dX3_insert_36 : decode cX3_insert 36 = .ok (.getfield 15, 3) := by decide +kernel
theorem dX3_insert_39 : decode cX3_insert 39 = .ok (.iconst 1, 1) := by decide +kernel
theorem dX3_insert_40 : decode cX3_insert 40 = .ok (.isub, 1) := by decide +kernel
theorem dX3_insert_41 : decode cX3_insert 41 = .ok (.istore_n 3, 1) := by decide +kernel
theorem dX3_insert_42 : decode cX3_insert 42 = .ok (.iload_n 3, 1) := by decide +kernel
theorem dX3_insert_43 : decode cX3_insert 43 = .ok (.iload_n 1, 1) := by decide +kernel
theorem dX3_insert_44 : decode cX3_insert 44 = .ok (.if_icmp .le 22, 3) := by decide +kernel
theorem dX3_insert_47 : decode cX3_insert 47 = .ok (.aload_n 0, 1) := by decide +kernel
theorem dX3_insert_48 : decode cX3_insert 48 = .ok (.iload_n 3, 1) := by decide +kernel
theorem dX3_insert_49 : decode cX3_insert 49 = .ok (.aload_n 0, 1) := by decide +kernel
theorem dX3_insert_50 : decode cX3_insert 50 = .ok (.iload_n 3, 1) := by decide +kernel
theorem dX3_insert_51 : decode cX3_insert 51 = .ok (.iconst 1, 1) := by decide +kernel
theorem dX3_insert_52 : decode cX3_insert 52 = .ok (.isub, 1) := by decide +kernel
theorem dX3_insert_53 : decode cX3_insert 53 = .ok (.iconst 0, 1) := by decide +kernel
theorem dX3_insert_54 : decode cX3_insert 54 = .ok (.invokevirtual 19, 3) := by decide +kernel
theorem dX3_insert_57 : decode cX3_insert 57 = .ok (.invokevirtual 23, 3) := by decide +kernel
theorem dX3_insert_60 : decode cX3_insert 60 = .ok (.iinc 3 (-1), 3) := by decide +kernel
theorem dX3_insert_63 : decode cX3_insert 63 = .ok (.goto (-21), 3) := by decide +kernel
theorem dX3_insert_66 : decode cX3_insert 66 = .ok (.aload_n 0, 1) := by decide +kernel
theorem dX3_insert_67 : decode cX3_insert 67 = .ok (.iload_n 1, 1) := by decide +kernel
theorem dX3_insert_68 : decode cX3_insert 68 = .ok (.iload_n 2, 1) := by decide +kernel
theorem dX3_insert_69 : decode cX3_insert 69 = .ok (.invokevirtual 23, 3) := by decide +kernel
theorem dX3_insert_72 : decode cX3_insert 72 = .ok (.return_, 1) := by decide +kernel
theorem dX3_cutOut_0 : decode cX3_cutOut 0 = .ok (.iload_n 1, 1) := by decide +kernel
theorem dX3_cutOut_1 : decode cX3_cutOut 1 = .ok (.ifCond .lt 11, 3) := by decide +kernel
theorem dX3_cutOut_4 : decode cX3_cutOut 4 = .ok (.iload_n 1, 1) := by decide +kernel
theorem dX3_cutOut_5 : decode cX3_cutOut 5 = .ok (.aload_n 0, 1) := by decide +kernel
theorem dX3_cutOut_6 : decode cX3_cutOut 6 = .ok (.getfield 15, 3) := by decide +kernel
theorem dX3_cutOut_9 : decode cX3_cutOut 9 = .ok (.if_icmp .lt 4, 3) := by decide +kernel
theorem dX3_cutOut_12 : decode cX3_cutOut 12 = .ok (.return_, 1) := by decide +kernel
theorem dX3_cutOut_13 : decode cX3_cutOut 13 = .ok (.iload_n 1, 1) := by decide +kernel
theorem dX3_cutOut_14 : decode cX3_cutOut 14 = .ok (.istore_n 2, 1) := by decide +kernel
theorem dX3_cutOut_15 : decode cX3_cutOut 15 = .ok (.iload_n 2, 1) := by decide +kernel
theorem dX3_cutOut_16 : decode cX3_cutOut 16 = .ok (.aload_n 0, 1) := by decide +kernel
theorem dX3_cutOut_17 : decode cX3_cutOut 17 = .ok (.getfield 15, 3) := by decide +kernel
theorem dX3_cutOut_20 : decode cX3_cutOut 20 = .ok (.iconst 1, 1) := by decide +kernel
theorem dX3_cutOut_21 : decode cX3_cutOut 21 = .ok (.isub, 1) := by decide +kernel
theorem dX3_cutOut_22 : decode cX3_cutOut 22 = .ok (.if_icmp .ge 22, 3) := by decide +kernel
theorem dX3_cutOut_25 : decode cX3_cutOut 25 = .ok (.aload_n 0, 1) := by decide +kernel
theorem dX3_cutOut_26 : decode cX3_cutOut 26 = .ok (.iload_n 2, 1) := by decide +kernel
theorem dX3_cutOut_27 : decode cX3_cutOut 27 = .ok (.aload_n 0, 1) := by decide +kernel
theorem dX3_cutOut_28 : decode cX3_cutOut 28 = .ok (.iload_n 2, 1) := by decide +kernel
theorem dX3_cutOut_29 : decode cX3_cutOut 29 = .ok (.iconst 1, 1) := by decide +kernel
theorem dX3_cutOut_30 : decode cX3_cutOut 30 = .ok (.iadd, 1) := by decide +kernel
theorem dX3_cutOut_31 : decode cX3_cutOut 31 = .ok (.iconst 0, 1) := by decide +kernel
theorem dX3_cutOut_32 : decode cX3_cutOut 32 = .ok (.invokevirtual 19, 3) := by decide +kernel
theorem dX3_cutOut_35 : decode cX3_cutOut 35 = .ok (.invokevirtual 23, 3) := by decide +kernel
theorem dX3_cutOut_38 : decode cX3_cutOut 38 = .ok (.iinc 2 1, 3) := by decide +kernel
theorem dX3_cutOut_41 : decode cX3_cutOut 41 = .ok (.goto (-26), 3) := by decide +kernel
theorem dX3_cutOut_44 : decode cX3_cutOut 44 = .ok (.aload_n 0, 1) := by decide +kernel
theorem dX3_cutOut_45 : decode cX3_cutOut 45 = .ok (.dup, 1) := by decide +kernel
theorem dX3_cutOut_46 : decode cX3_cutOut 46 = .ok (.getfield 15, 3) := by decide +kernel
theorem dX3_cutOut_49 : decode cX3_cutOut 49 = .ok (.iconst 1, 1) := by decide +kernel
theorem dX3_cutOut_50 : decode cX3_cutOut 50 = .ok (.isub, 1) := by decide +kernel
theorem dX3_cutOut_51 : decode cX3_cutOut 51 = .ok (.putfield 15, 3) := by decide +kernel
theorem dX3_cutOut_54 : decode cX3_cutOut 54 = .ok (.return_, 1) := by decide +kernel
theorem dX3_cutTo_0 : decode cX3_cutTo 0 = .ok (.iload_n 1, 1) := by decide +kernel
theorem dX3_cutTo_1 : decode cX3_cutTo 1 = .ok (.ifCond .lt 16, 3) := by decide +kernel
theorem dX3_cutTo_4 : decode cX3_cutTo 4 = .ok (.iload_n 1, 1) := by decide +kernel
theorem dX3_cutTo_5 : decode cX3_cutTo 5 = .ok (.aload_n 0, 1) := by decide +kernel
theorem dX3_cutTo_6 : decode cX3_cutTo 6 = .ok (.getfield 15, 3) := by decide +kernel
theorem dX3_cutTo_9 : decode cX3_cutTo 9 = .ok (.if_icmp .ge 8, 3) := by decide +kernel
theorem dX3_cutTo_12 : decode cX3_cutTo 12 = .ok (.aload_n 0, 1) := by decide +kernel
theorem dX3_cutTo_13 : decode cX3_cutTo 13 = .ok (.iload_n 1, 1) := by decide +kernel
theorem dX3_cutTo_14 : decode cX3_cutTo 14 = .ok (.putfield 15, 3) := by decide +kernel
theorem dX3_cutTo_17 : decode cX3_cutTo 17 = .ok (.return_, 1) := by decide +kernel
theorem dX3_indexOf_0 : decode cX3_indexOf 0 = .ok (.iconst 0, 1) := by decide +kernel
theorem dX3_indexOf_1 : decode cX3_indexOf 1 = .ok (.istore_n 2, 1) := by decide +kernel
theorem dX3_indexOf_2 : decode cX3_indexOf 2 = .ok (.iload_n 2, 1) := by decide +kernel
theorem dX3_indexOf_3 : decode cX3_indexOf 3 = .ok (.aload_n 0, 1) := by decide +kernel
theorem dX3_indexOf_4 : decode cX3_indexOf 4 = .ok (.getfield 15, 3) := by decide +kernel
theorem dX3_indexOf_7 : decode cX3_indexOf 7 = .ok (.if_icmp .ge 21, 3) := by decide +kernel
theorem dX3_indexOf_10 : decode cX3_indexOf 10 = .ok (.aload_n 0, 1) := by decide +kernel
theorem dX3_indexOf_11 : decode cX3_indexOf 11 = .ok (.iload_n 2, 1) := by decide +kernel
theorem dX3_indexOf_12 : decode cX3_indexOf 12 = .ok (.iconst 0, 1) := by decide +kernel
theorem dX3_indexOf_13 : decode cX3_indexOf 13 = .ok (.invokevirtual 19, 3) := by decide +kernel
theorem dX3_indexOf_16 : decode cX3_indexOf 16 = .ok (.iload_n 1, 1) := by decide +kernel
theorem dX3_indexOf_17 : decode cX3_indexOf 17 = .ok (.if_icmp .ne 5, 3) := by decide +kernel
theorem dX3_indexOf_20 : decode cX3_indexOf 20 = .ok (.iload_n 2, 1) := by decide +kernel
theorem dX3_indexOf_21 : decode cX3_indexOf 21 = .ok (.ireturn, 1) := by decide +kernel
theorem dX3_indexOf_22 : decode cX3_indexOf 22 = .ok (.iinc 2 1, 3) := by decide +kernel
theorem dX3_indexOf_25 : decode cX3_indexOf 25 = .ok (.goto (-23), 3) := by decide +kernel
theorem dX3_indexOf_28 : decode cX3_indexOf 28 = .ok (.iconst (-1), 1) := by decide +kernel
theorem dX3_indexOf_29 : decode cX3_indexOf 29 = .ok (.ireturn, 1) := by decide +kernel
theorem dX3_firstAtLeast_0 : decode cX3_firstAtLeast 0 = .ok (.iload_n 2, 1) := by decide +kernel
theorem dX3_firstAtLeast_1 : decode cX3_firstAtLeast 1 = .ok (.istore_n 3, 1) := by decide +kernel
theorem dX3_firstAtLeast_2 : decode cX3_firstAtLeast 2 = .ok (.iload_n 3, 1) := by decide +kernel
theorem dX3_firstAtLeast_3 : decode cX3_firstAtLeast 3 = .ok (.ifCond .lt 36, 3) := by decide +kernel
theorem dX3_firstAtLeast_6 : decode cX3_firstAtLeast 6 = .ok (.iload_n 3, 1) := by decide +kernel
theorem dX3_firstAtLeast_7 : decode cX3_firstAtLeast 7 = .ok (.aload_n 0, 1) := by decide +kernel
theorem dX3_firstAtLeast_8 : decode cX3_firstAtLeast 8 = .ok (.getfield 15, 3) := by decide +kernel
theorem dX3_firstAtLeast_11 : decode cX3_firstAtLeast 11 = .ok (.if_icmp .ge 28, 3) := by decide +kernel
theorem dX3_firstAtLeast_14 : decode cX3_firstAtLeast 14 = .ok (.iload_n 3, 1) := by decide +kernel
theorem dX3_firstAtLeast_15 : decode cX3_firstAtLeast 15 = .ok (.aload_n 0, 1) := by decide +kernel
theorem dX3_firstAtLeast_16 : decode cX3_firstAtLeast 16 = .ok (.getfield 9, 3) := by decide +kernel
theorem dX3_firstAtLeast_19 : decode cX3_firstAtLeast 19 = .ok (.arraylength, 1) := by decide +kernel
theorem dX3_firstAtLeast_20 : decode cX3_firstAtLeast 20 = .ok (.if_icmp .ge 19, 3) := by decide +kernel
theorem dX3_firstAtLeast_23 : decode cX3_firstAtLeast 23 = .ok (.aload_n 0, 1) := by decide +kernel
theorem dX3_firstAtLeast_24 : decode cX3_firstAtLeast 24 = .ok (.getfield 9, 3) := by decide +kernel
theorem dX3_firstAtLeast_27 : decode cX3_firstAtLeast 27 = .ok (.iload_n 3, 1) := by decide +kernel
theorem dX3_firstAtLeast_28 : decode cX3_firstAtLeast 28 = .ok (.iaload, 1) := by decide +kernel
theorem dX3_firstAtLeast_29 : decode cX3_firstAtLeast 29 = .ok (.iload_n 1, 1) := by decide +kernel
theorem dX3_firstAtLeast_30 : decode cX3_firstAtLeast 30 = .ok (.if_icmp .ge 9, 3) := by decide +kernel
theorem dX3_firstAtLeast_33 : decode cX3_firstAtLeast 33 = .ok (.iinc 3 1, 3) := by decide +kernel
theorem dX3_firstAtLeast_36 : decode cX3_firstAtLeast 36 = .ok (.goto (-34), 3) := by decide +kernel
theorem dX3_firstAtLeast_39 : decode cX3_firstAtLeast 39 = .ok (.iload_n 3, 1) := by decide +kernel
theorem dX3_firstAtLeast_40 : decode cX3_firstAtLeast 40 = .ok (.ireturn, 1) := by decide +kernel
theorem dX3_copyFrom_0 : decode cX3_copyFrom 0 = .ok (.aload_n 1, 1) := by decide +kernel
theorem dX3_copyFrom_1 : decode cX3_copyFrom 1 = .ok (.getfield 15, 3) := by decide +kernel
theorem dX3_copyFrom_4 : decode cX3_copyFrom 4 = .ok (.aload_n 1, 1) := by decide +kernel
theorem dX3_copyFrom_5 : decode cX3_copyFrom 5 = .ok (.getfield 9, 3) := by decide +kernel
theorem dX3_copyFrom_8 : decode cX3_copyFrom 8 = .ok (.arraylength, 1) := by decide +kernel
theorem dX3_copyFrom_9 : decode cX3_copyFrom 9 = .ok (.aload_n 0, 1) := by decide +kernel
theorem dX3_copyFrom_10 : decode cX3_copyFrom 10 = .ok (.getfield 9, 3) := by decide +kernel
theorem dX3_copyFrom_13 : decode cX3_copyFrom 13 = .ok (.arraylength, 1) := by decide +kernel
theorem dX3_copyFrom_14 : decode cX3_copyFrom 14 = .ok (.invokestatic 27, 3) := by decide +kernel
theorem dX3_copyFrom_17 : decode cX3_copyFrom 17 = .ok (.invokestatic 27, 3) := by decide +kernel
theorem dX3_copyFrom_20 : decode cX3_copyFrom 20 = .ok (.istore_n 2, 1) := by decide +kernel
theorem dX3_copyFrom_21 : decode cX3_copyFrom 21 = .ok (.iload_n 2, 1) := by decide +kernel
theorem dX3_copyFrom_22 : decode cX3_copyFrom 22 = .ok (.ifCond .lt 22, 3) := by decide +kernel
theorem dX3_copyFrom_25 : decode cX3_copyFrom 25 = .ok (.aload_n 1, 1) := by decide +kernel
theorem dX3_copyFrom_26 : decode cX3_copyFrom 26 = .ok (.getfield 9, 3) := by decide +kernel
theorem dX3_copyFrom_29 : decode cX3_copyFrom 29 = .ok (.iconst 0, 1) := by decide +kernel
theorem dX3_copyFrom_30 : decode cX3_copyFrom 30 = .ok (.aload_n 0, 1) := by decide +kernel
theorem dX3_copyFrom_31 : decode cX3_copyFrom 31 = .ok (.getfield 9, 3) := by decide +kernel
theorem dX3_copyFrom_34 : decode cX3_copyFrom 34 = .ok (.iconst 0, 1) := by decide +kernel
theorem dX3_copyFrom_35 : decode cX3_copyFrom 35 = .ok (.iload_n 2, 1) := by decide +kernel
theorem dX3_copyFrom_36 : decode cX3_copyFrom 36 = .ok (.invokestatic 32, 3) := by decide +kernel
theorem dX3_copyFrom_39 : decode cX3_copyFrom 39 = .ok (.aload_n 0, 1) := by decide +kernel
theorem dX3_copyFrom_40 : decode cX3_copyFrom 40 = .ok (.iload_n 2, 1) := by decide +kernel
theorem dX3_copyFrom_41 : decode cX3_copyFrom 41 = .ok (.putfield 15, 3) := by decide +kernel
theorem dX3_copyFrom_44 : decode cX3_copyFrom 44 = .ok (.return_, 1) := by decide +kernel
end
section
theorem dX4_init_0 : decode cX4_init 0 = .ok (.aload_n 0, 1) := by decide +kernel
theorem dX4_init_1 : decode cX4_init 1 = .ok (.invokespecial 3, 3) := by decide +kernel
theorem dX4_init_4 : decode cX4_init 4 = .ok (.aload_n 0, 1) := by decide +kernel
theorem dX4_init_5 : decode cX4_init 5 = .ok (.bipush 15, 2) := by decide +kernel
theorem dX4_init_7 : decode cX4_init 7 = .ok (.anewarray 9, 3) := by decide +kernel
theorem dX4_init_10 : decode cX4_init 10 = .ok (.putfield 11, 3) := by decide +kernel
theorem dX4_init_13 : decode cX4_init 13 = .ok (.aload_n 0, 1) := by decide +kernel
theorem dX4_init_14 : decode cX4_init 14 = .ok (.new 9, 3) := by decide +kernel
theorem dX4_init_17 : decode cX4_init 17 = .ok (.dup, 1) := by decide +kernel
theorem dX4_init_18 : decode cX4_init 18 = .ok (.invokespecial 17, 3) := by decide +kernel
theorem dX4_init_21 : decode cX4_init 21 = .ok (.putfield 18, 3) := by decide +kernel
theorem dX4_init_24 : decode cX4_init 24 = .ok (.aload_n 0, 1) := by decide +kernel
theorem dX4_init_25 : decode cX4_init 25 = .ok (.new 22, 3) := by decide +kernel
theorem dX4_init_28 : decode cX4_init 28 = .ok (.dup, 1) := by decide +kernel
theorem dX4_init_29 : decode cX4_init 29 = .ok (.iconst 0, 1) := by decide +kernel
theorem dX4_init_30 : decode cX4_init 30 = .ok (.invokespecial 24, 3) := by decide +kernel
theorem dX4_init_33 : decode cX4_init 33 = .ok (.putfield 27, 3) := by decide +kernel
theorem dX4_init_36 : decode cX4_init 36 = .ok (.aload_n 0, 1) := by decide +kernel
theorem dX4_init_37 : decode cX4_init 37 = .ok (.iconst 1, 1) := by decide +kernel
theorem dX4_init_38 : decode cX4_init 38 = .ok (.putfield 31, 3) := by decide +kernel
theorem dX4_init_41 : decode cX4_init 41 = .ok (.aload_n 0, 1) := by decide +kernel
theorem dX4_init_42 : decode cX4_init 42 = .ok (.iconst 4, 1) := by decide +kernel
theorem dX4_init_43 : decode cX4_init 43 = .ok (.putfield 35, 3) := by decide +kernel
theorem dX4_init_46 : decode cX4_init 46 = .ok (.aload_n 0, 1) := by decide +kernel
theorem dX4_init_47 : decode cX4_init 47 = .ok (.iconst 2, 1) := by decide +kernel
theorem dX4_init_48 : decode cX4_init 48 = .ok (.putfield 38, 3) := by decide +kernel
theorem dX4_init_51 : decode cX4_init 51 = .ok (.aload_n 0, 1) := by decide +kernel
theorem dX4_init_52 : decode cX4_init 52 = .ok (.getfield 11, 3) := by decide +kernel
theorem dX4_init_55 : decode cX4_init 55 = .ok (.iconst 0, 1) := by decide +kernel
theorem dX4_init_56 : decode cX4_init 56 = .ok (.aload_n 0, 1) := by decide +kernel
theorem dX4_init_57 : decode cX4_init 57 = .ok (.getfield 18, 3) := by decide +kernel
theorem dX4_init_60 : decode cX4_init 60 = .ok (.aastore, 1) := by decide +kernel
theorem dX4_init_61 : decode cX4_init 61 = .ok (.iconst 1, 1) := by decide +kernel
theorem dX4_init_62 : decode cX4_init 62 = .ok (.istore_n 1, 1) := by decide +kernel
theorem dX4_init_63 : decode cX4_init 63 = .ok (.iload_n 1, 1) := by decide +kernel
theorem dX4_init_64 : decode cX4_init 64 = .ok (.aload_n 0, 1) := by decide +kernel
theorem dX4_init_65 : decode cX4_init 65 = .ok (.getfield 11, 3) := by decide +kernel
theorem dX4_init_68 : decode cX4_init 68 = .ok (.arraylength, 1) := by decide +kernel
theorem dX4_init_69 : decode cX4_init 69 = .ok (.if_icmp .ge 22, 3) := by decide +kernel
theorem dX4_init_72 : decode cX4_init 72 = .ok (.aload_n 0, 1) := by decide +kernel
theorem dX4_init_73 : decode cX4_init 73 = .ok (.getfield 11, 3) := by decide +kernel
theorem dX4_init_76 : decode cX4_init 76 = .ok (.iload_n 1, 1) := by decide +kernel
theorem dX4_init_77 : decode cX4_init 77 = .ok (.new 9, 3) := by decide +kernel
theorem dX4_init_80 : decode cX4_init 80 = .ok (.dup, 1) := by decide +kernel
theorem dX4_init_81 : decode cX4_init 81 = .ok (.invokespecial 17, 3) := by decide +kernel
theorem dX4_init_84 : decode cX4_init 84 = .ok (.aastore, 1) := by decide +kernel
theorem dX4_init_85 : decode cX4_init 85 = .ok (.iinc 1 1, 3) := by decide +kernel
theorem dX4_init_88 : decode cX4_init 88 = .ok (.goto (-25), 3) := by decide +kernel
theorem dX4_init_91 : decode cX4_init 91 = .ok (.return_, 1) := by decide +kernel
theorem dX4_at_0 : decode cX4_at 0 = .ok (.iload_n 1, 1) := by decide +kernel
theorem dX4_at_1 : decode cX4_at 1 = .ok (.ifCond .lt 21, 3) := by decide +kernel
theorem dX4_at_4 : decode cX4_at 4 = .ok (.iload_n 1, 1) := by decide +kernel
theorem dX4_at_5 : decode cX4_at 5 = .ok (.aload_n 0, 1) := by decide +kernel
theorem dX4_at_6 : decode cX4_at 6 = .ok (.getfield 11, 3) := by decide +kernel
theorem dX4_at_9 : decode cX4_at 9 = .ok (.arraylength, 1) := by decide +kernel
theorem dX4_at_10 : decode cX4_at 10 = .ok (.if_icmp .ge 12, 3) := by decide +kernel
theorem dX4_at_13 : decode cX4_at 13 = .ok (.aload_n 0, 1) := by decide +kernel
theorem dX4_at_14 : decode cX4_at 14 = .ok (.getfield 11, 3) := by decide +kernel
theorem dX4_at_17 : decode cX4_at 17 = .ok (.iload_n 1, 1) := by decide +kernel
theorem dX4_at_18 : decode cX4_at 18 = .ok (.aaload, 1) := by decide +kernel
theorem dX4_at_19 : decode cX4_at 19 = .ok (.goto 4, 3) := by decide +kernel
theorem dX4_at_22 : decode cX4_at 22 = .ok (.aconst_null, 1) := by decide +kernel
theorem dX4_at_23 : decode cX4_at 23 = .ok (.astore_n 2, 1) := by decide +kernel
theorem dX4_at_24 : decode cX4_at 24 = .ok (.aload_n 2, 1) := by decide +kernel
theorem dX4_at_25 : decode cX4_at 25 = .ok (.ifnull 7, 3) := by decide +kernel
theorem dX4_at_28 : decode cX4_at 28 = .ok (.aload_n 2, 1) := by decide +kernel
theorem dX4_at_29 : decode cX4_at 29 = .ok (.goto 7, 3) := by decide +kernel
theorem dX4_at_32 : decode cX4_at 32 = .ok (.aload_n 0, 1) := by decide +kernel
theorem dX4_at_33 : decode cX4_at 33 = .ok (.getfield 18, 3) := by decide +kernel
theorem dX4_at_36 : decode cX4_at 36 = .ok (.areturn, 1) := by decide +kernel
theorem dX4_grow_0 : decode cX4_grow 0 = .ok (.aload_n 0, 1) := by decide +kernel
theorem dX4_grow_1 : decode cX4_grow 1 = .ok (.getfield 31, 3) := by decide +kernel
theorem dX4_grow_4 : decode cX4_grow 4 = .ok (.istore_n 3, 1) := by decide +kernel
theorem dX4_grow_5 : decode cX4_grow 5 = .ok (.aload_n 0, 1) := by decide +kernel
theorem dX4_grow_6 : decode cX4_grow 6 = .ok (.iload_n 1, 1) := by decide +kernel
theorem dX4_grow_7 : decode cX4_grow 7 = .ok (.invokevirtual 41, 3) := by decide +kernel
theorem dX4_grow_10 : decode cX4_grow 10 = .ok (.astore 4, 2) := by decide +kernel
theorem dX4_grow_12 : decode cX4_grow 12 = .ok (.iload_n 2, 1) := by decide +kernel
theorem dX4_grow_13 : decode cX4_grow 13 = .ok (.iconst 1, 1) := by decide +kernel
theorem dX4_grow_14 : decode cX4_grow 14 = .ok (.if_icmp .ne 12, 3) := by decide +kernel
theorem dX4_grow_17 : decode cX4_grow 17 = .ok (.aload 4, 2) := by decide +kernel
theorem dX4_grow_19 : decode cX4_grow 19 = .ok (.iload_n 3, 1) := by decide +kernel
theorem dX4_grow_20 : decode cX4_grow 20 = .ok (.putfield 45, 3) := by decide +kernel
theorem dX4_grow_23 : decode cX4_grow 23 = .ok (.goto 9, 3) := by decide +kernel
theorem dX4_grow_26 : decode cX4_grow 26 = .ok (.aload 4, 2) := by decide +kernel
theorem dX4_grow_28 : decode cX4_grow 28 = .ok (.iload_n 3, 1) := by decide +kernel
theorem dX4_grow_29 : decode cX4_grow 29 = .ok (.putfield 48, 3) := by decide +kernel
theorem dX4_grow_32 : decode cX4_grow 32 = .ok (.aload_n 0, 1) := by decide +kernel
theorem dX4_grow_33 : decode cX4_grow 33 = .ok (.iload_n 3, 1) := by decide +kernel
theorem dX4_grow_34 : decode cX4_grow 34 = .ok (.invokevirtual 41, 3) := by decide +kernel
theorem dX4_grow_37 : decode cX4_grow 37 = .ok (.iload_n 1, 1) := by decide +kernel
theorem dX4_grow_38 : decode cX4_grow 38 = .ok (.aload 4, 2) := by decide +kernel
theorem dX4_grow_40 : decode cX4_grow 40 = .ok (.getfield 51, 3) := by decide +kernel
theorem dX4_grow_43 : decode cX4_grow 43 = .ok (.iconst 1, 1) := by decide +kernel
theorem dX4_grow_44 : decode cX4_grow 44 = .ok (.iadd, 1) := by decide +kernel
theorem dX4_grow_45 : decode cX4_grow 45 = .ok (.invokevirtual 54, 3) := by decide +kernel
theorem dX4_grow_48 : decode cX4_grow 48 = .ok (.aload_n 0, 1) := by decide +kernel
theorem dX4_grow_49 : decode cX4_grow 49 = .ok (.dup, 1) := by decide +kernel
theorem dX4_grow_50 : decode cX4_grow 50 = .ok (.getfield 31, 3) := by decide +kernel
theorem dX4_grow_53 : decode cX4_grow 53 = .ok (.iconst 1, 1) := by decide +kernel
theorem dX4_grow_54 : decode cX4_grow 54 = .ok (.iadd, 1) := by decide +kernel
theorem dX4_grow_55 : decode cX4_grow 55 = .ok (.putfield 31, 3) := by decide +kernel
theorem dX4_grow_58 : decode cX4_grow 58 = .ok (.aload_n 0, 1) := by decide +kernel
theorem dX4_grow_59 : decode cX4_grow 59 = .ok (.iload_n 3, 1) := by decide +kernel
theorem dX4_grow_60 : decode cX4_grow 60 = .ok (.invokevirtual 58, 3) := by decide +kernel
theorem dX4_grow_63 : decode cX4_grow 63 = .ok (.pop, 1) := by decide +kernel
theorem dX4_grow_64 : decode cX4_grow 64 = .ok (.iload_n 3, 1) := by decide +kernel
theorem dX4_grow_65 : decode cX4_grow 65 = .ok (.ireturn, 1) := by decide +kernel
theorem dX4_takeIn_0 : decode cX4_takeIn 0 = .ok (.aload_n 0, 1) := by decide +kernel
theorem dX4_takeIn_1 : decode cX4_takeIn 1 = .ok (.iload_n 1, 1) := by decide +kernel
theorem dX4_takeIn_2 : decode cX4_takeIn 2 = .ok (.invokevirtual 41, 3) := by decide +kernel
theorem dX4_takeIn_5 : decode cX4_takeIn 5 = .ok (.astore_n 3, 1) := by decide +kernel
theorem dX4_takeIn_6 : decode cX4_takeIn 6 = .ok (.aload_n 3, 1) := by decide +kernel
theorem dX4_takeIn_7 : decode cX4_takeIn 7 = .ok (.iload_n 2, 1) := by decide +kernel
theorem dX4_takeIn_8 : decode cX4_takeIn 8 = .ok (.invokevirtual 62, 3) := by decide +kernel
theorem dX4_takeIn_11 : decode cX4_takeIn 11 = .ok (.ifCond .eq 5, 3) := by decide +kernel
theorem dX4_takeIn_14 : decode cX4_takeIn 14 = .ok (.iconst 0, 1) := by decide +kernel
theorem dX4_takeIn_15 : decode cX4_takeIn 15 = .ok (.ireturn, 1) := by decide +kernel
theorem dX4_takeIn_16 : decode cX4_takeIn 16 = .ok (.aload_n 3, 1) := by decide +kernel
theorem dX4_takeIn_17 : decode cX4_takeIn 17 = .ok (.iload_n 2, 1) := by decide +kernel
theorem dX4_takeIn_18 : decode cX4_takeIn 18 = .ok (.invokevirtual 66, 3) := by decide +kernel
theorem dX4_takeIn_21 : decode cX4_takeIn 21 = .ok (.istore 4, 2) := by decide +kernel
theorem dX4_takeIn_23 : decode cX4_takeIn 23 = .ok (.iload 4, 2) := by decide +kernel
theorem dX4_takeIn_25 : decode cX4_takeIn 25 = .ok (.ifCond .eq 23, 3) := by decide +kernel
theorem dX4_takeIn_28 : decode cX4_takeIn 28 = .ok (.aload_n 3, 1) := by decide +kernel
theorem dX4_takeIn_29 : decode cX4_takeIn 29 = .ok (.getfield 69, 3) := by decide +kernel
theorem dX4_takeIn_32 : decode cX4_takeIn 32 = .ok (.invokevirtual 72, 3) := by decide +kernel
theorem dX4_takeIn_35 : decode cX4_takeIn 35 = .ok (.aload_n 0, 1) := by decide +kernel
theorem dX4_takeIn_36 : decode cX4_takeIn 36 = .ok (.getfield 35, 3) := by decide +kernel
theorem dX4_takeIn_39 : decode cX4_takeIn 39 = .ok (.if_icmp .lt 9, 3) := by decide +kernel
theorem dX4_takeIn_42 : decode cX4_takeIn 42 = .ok (.aload_n 0, 1) := by decide +kernel
theorem dX4_takeIn_43 : decode cX4_takeIn 43 = .ok (.iload_n 1, 1) := by decide +kernel
theorem dX4_takeIn_44 : decode cX4_takeIn 44 = .ok (.invokevirtual 75, 3) := by decide +kernel
theorem dX4_takeIn_47 : decode cX4_takeIn 47 = .ok (.pop, 1) := by decide +kernel
theorem dX4_takeIn_48 : decode cX4_takeIn 48 = .ok (.iconst 1, 1) := by decide +kernel
theorem dX4_takeIn_49 : decode cX4_takeIn 49 = .ok (.ireturn, 1) := by decide +kernel
theorem dX4_drop_0 : decode cX4_drop 0 = .ok (.aload_n 0, 1) := by decide +kernel
theorem dX4_drop_1 : decode cX4_drop 1 = .ok (.iload_n 1, 1) := by decide +kernel
theorem dX4_drop_2 : decode cX4_drop 2 = .ok (.invokevirtual 41, 3) := by decide +kernel
theorem dX4_drop_5 : decode cX4_drop 5 = .ok (.astore_n 3, 1) := by decide +kernel
theorem dX4_drop_6 : decode cX4_drop 6 = .ok (.aload_n 3, 1) := by decide +kernel
theorem dX4_drop_7 : decode cX4_drop 7 = .ok (.iload_n 2, 1) := by decide +kernel
theorem dX4_drop_8 : decode cX4_drop 8 = .ok (.invokevirtual 62, 3) := by decide +kernel
theorem dX4_drop_11 : decode cX4_drop 11 = .ok (.ifCond .ne 5, 3) := by decide +kernel
theorem dX4_drop_14 : decode cX4_drop 14 = .ok (.iconst 0, 1) := by decide +kernel
theorem dX4_drop_15 : decode cX4_drop 15 = .ok (.ireturn, 1) := by decide +kernel
theorem dX4_drop_16 : decode cX4_drop 16 = .ok (.aload_n 3, 1) := by decide +kernel
theorem dX4_drop_17 : decode cX4_drop 17 = .ok (.iload_n 2, 1) := by decide +kernel
theorem dX4_drop_18 : decode cX4_drop 18 = .ok (.invokevirtual 78, 3) := by decide +kernel
theorem dX4_drop_21 : decode cX4_drop 21 = .ok (.istore 4, 2) := by decide +kernel
theorem dX4_drop_23 : decode cX4_drop 23 = .ok (.iload 4, 2) := by decide +kernel
theorem dX4_drop_25 : decode cX4_drop 25 = .ok (.ifCond .eq 25, 3) := by decide +kernel
theorem dX4_drop_28 : decode cX4_drop 28 = .ok (.iconst 2, 1) := by decide +kernel
theorem dX4_drop_29 : decode cX4_drop 29 = .ok (.aload_n 3, 1) := by decide +kernel
theorem dX4_drop_30 : decode cX4_drop 30 = .ok (.getfield 81, 3) := by decide +kernel
theorem dX4_drop_33 : decode cX4_drop 33 = .ok (.imul, 1) := by decide +kernel
theorem dX4_drop_34 : decode cX4_drop 34 = .ok (.aload_n 3, 1) := by decide +kernel
theorem dX4_drop_35 : decode cX4_drop 35 = .ok (.getfield 84, 3) := by decide +kernel
theorem dX4_drop_38 : decode cX4_drop 38 = .ok (.invokevirtual 72, 3) := by decide +kernel
theorem dX4_drop_41 : decode cX4_drop 41 = .ok (.if_icmp .le 9, 3) := by decide +kernel
theorem dX4_drop_44 : decode cX4_drop 44 = .ok (.aload_n 0, 1) := by decide +kernel
theorem dX4_drop_45 : decode cX4_drop 45 = .ok (.iload_n 1, 1) := by decide +kernel
theorem dX4_drop_46 : decode cX4_drop 46 = .ok (.invokevirtual 75, 3) := by decide +kernel
theorem dX4_drop_49 : decode cX4_drop 49 = .ok (.pop, 1) := by decide +kernel
theorem dX4_drop_50 : decode cX4_drop 50 = .ok (.iconst 1, 1) := by decide +kernel
theorem dX4_drop_51 : decode cX4_drop 51 = .ok (.ireturn, 1) := by decide +kernel
theorem dX4_renew_0 : decode cX4_renew 0 = .ok (.aload_n 0, 1) := by decide +kernel
theorem dX4_renew_1 : decode cX4_renew 1 = .ok (.iload_n 1, 1) := by decide +kernel
theorem dX4_renew_2 : decode cX4_renew 2 = .ok (.invokevirtual 41, 3) := by decide +kernel
theorem dX4_renew_5 : decode cX4_renew 5 = .ok (.invokevirtual 87, 3) := by decide +kernel
theorem dX4_renew_8 : decode cX4_renew 8 = .ok (.aload_n 0, 1) := by decide +kernel
theorem dX4_renew_9 : decode cX4_renew 9 = .ok (.dup, 1) := by decide +kernel
theorem dX4_renew_10 : decode cX4_renew 10 = .ok (.getfield 90, 3) := by decide +kernel
theorem dX4_renew_13 : decode cX4_renew 13 = .ok (.iconst 1, 1) := by decide +kernel
theorem dX4_renew_14 : decode cX4_renew 14 = .ok (.iadd, 1) := by decide +kernel
theorem dX4_renew_15 : decode cX4_renew 15 = .ok (.putfield 90, 3) := by decide +kernel
theorem dX4_renew_18 : decode cX4_renew 18 = .ok (.aload_n 0, 1) := by decide +kernel
theorem dX4_renew_19 : decode cX4_renew 19 = .ok (.iload_n 1, 1) := by decide +kernel
theorem dX4_renew_20 : decode cX4_renew 20 = .ok (.invokevirtual 58, 3) := by decide +kernel
theorem dX4_renew_23 : decode cX4_renew 23 = .ok (.ireturn, 1) := by decide +kernel
theorem dX4_renewAll_0 : decode cX4_renewAll 0 = .ok (.aload_n 0, 1) := by decide +kernel
theorem dX4_renewAll_1 : decode cX4_renewAll 1 = .ok (.getfield 31, 3) := by decide +kernel
theorem dX4_renewAll_4 : decode cX4_renewAll 4 = .ok (.iconst 1, 1) := by decide +kernel
theorem dX4_renewAll_5 : decode cX4_renewAll 5 = .ok (.isub, 1) := by decide +kernel
theorem dX4_renewAll_6 : decode cX4_renewAll 6 = .ok (.istore_n 1, 1) := by decide +kernel
theorem dX4_renewAll_7 : decode cX4_renewAll 7 = .ok (.iload_n 1, 1) := by decide +kernel
theorem dX4_renewAll_8 : decode cX4_renewAll 8 = .ok (.ifCond .lt 15, 3) := by decide +kernel
theorem dX4_renewAll_11 : decode cX4_renewAll 11 = .ok (.aload_n 0, 1) := by decide +kernel
theorem dX4_renewAll_12 : decode cX4_renewAll 12 = .ok (.iload_n 1, 1) := by decide +kernel
theorem dX4_renewAll_13 : decode cX4_renewAll 13 = .ok (.invokevirtual 75, 3) := by decide +kernel
theorem dX4_renewAll_16 : decode cX4_renewAll 16 = .ok (.pop, 1) := by decide +kernel
theorem dX4_renewAll_17 : decode cX4_renewAll 17 = .ok (.iinc 1 (-1), 3) := by decide +kernel
theorem dX4_renewAll_20 : decode cX4_renewAll 20 = .ok (.goto (-13), 3) := by decide +kernel
theorem dX4_renewAll_23 : decode cX4_renewAll 23 = .ok (.return_, 1) := by decide +kernel
theorem dX4_buildUpFrom_0 : decode cX4_buildUpFrom 0 = .ok (.iconst 0, 1) := by decide +kernel
theorem dX4_buildUpFrom_1 : decode cX4_buildUpFrom 1 = .ok (.istore_n 2, 1) := by decide +kernel
theorem dX4_buildUpFrom_2 : decode cX4_buildUpFrom 2 = .ok (.aload_n 0, 1) := by decide +kernel
theorem dX4_buildUpFrom_3 : decode cX4_buildUpFrom 3 = .ok (.iload_n 1, 1) := by decide +kernel
theorem dX4_buildUpFrom_4 : decode cX4_buildUpFrom 4 = .ok (.invokevirtual 41, 3) := by decide +kernel
theorem dX4_buildUpFrom_7 : decode cX4_buildUpFrom 7 = .ok (.astore_n 3, 1) := by decide +kernel
theorem dX4_buildUpFrom_8 : decode cX4_buildUpFrom 8 = .ok (.aload_n 3, 1) := by decide +kernel
theorem dX4_buildUpFrom_9 : decode cX4_buildUpFrom 9 = .ok (.getfield 51, 3) := by decide +kernel
theorem dX4_buildUpFrom_12 : decode cX4_buildUpFrom 12 = .ok (.istore 4, 2) := by decide +kernel
theorem dX4_buildUpFrom_14 : decode cX4_buildUpFrom 14 = .ok (.iload 4, 2) := by decide +kernel
theorem dX4_buildUpFrom_16 : decode cX4_buildUpFrom 16 = .ok (.ifCond .lt 69, 3) := by decide +kernel
theorem dX4_buildUpFrom_19 : decode cX4_buildUpFrom 19 = .ok (.aload_n 3, 1) := by decide +kernel
theorem dX4_buildUpFrom_20 : decode cX4_buildUpFrom 20 = .ok (.getfield 93, 3) := by decide +kernel
theorem dX4_buildUpFrom_23 : decode cX4_buildUpFrom 23 = .ok (.aload_n 3, 1) := by decide +kernel
theorem dX4_buildUpFrom_24 : decode cX4_buildUpFrom 24 = .ok (.getfield 84, 3) := by decide +kernel
theorem dX4_buildUpFrom_27 : decode cX4_buildUpFrom 27 = .ok (.aload_n 0, 1) := by decide +kernel
theorem dX4_buildUpFrom_28 : decode cX4_buildUpFrom 28 = .ok (.aload_n 3, 1) := by decide +kernel
theorem dX4_buildUpFrom_29 : decode cX4_buildUpFrom 29 = .ok (.getfield 45, 3) := by decide +kernel
theorem dX4_buildUpFrom_32 : decode cX4_buildUpFrom 32 = .ok (.invokevirtual 97, 3) := by decide +kernel
theorem dX4_buildUpFrom_35 : decode cX4_buildUpFrom 35 = .ok (.aload_n 0, 1) := by decide +kernel
theorem dX4_buildUpFrom_36 : decode cX4_buildUpFrom 36 = .ok (.aload_n 3, 1) := by decide +kernel
theorem dX4_buildUpFrom_37 : decode cX4_buildUpFrom 37 = .ok (.getfield 48, 3) := by decide +kernel
theorem dX4_buildUpFrom_40 : decode cX4_buildUpFrom 40 = .ok (.invokevirtual 97, 3) := by decide +kernel
theorem dX4_buildUpFrom_43 : decode cX4_buildUpFrom 43 = .ok (.aload_n 0, 1) := by decide +kernel
theorem dX4_buildUpFrom_44 : decode cX4_buildUpFrom 44 = .ok (.getfield 38, 3) := by decide +kernel
theorem dX4_buildUpFrom_47 : decode cX4_buildUpFrom 47 = .ok (.invokevirtual 101, 3) := by decide +kernel
theorem dX4_buildUpFrom_50 : decode cX4_buildUpFrom 50 = .ok (.aload_n 0, 1) := by decide +kernel
theorem dX4_buildUpFrom_51 : decode cX4_buildUpFrom 51 = .ok (.dup, 1) := by decide +kernel
theorem dX4_buildUpFrom_52 : decode cX4_buildUpFrom 52 = .ok (.getfield 107, 3) := by decide +kernel
theorem dX4_buildUpFrom_55 : decode cX4_buildUpFrom 55 = .ok (.iconst 1, 1) := by decide +kernel
theorem dX4_buildUpFrom_56 : decode cX4_buildUpFrom 56 = .ok (.iadd, 1) := by decide +kernel
theorem dX4_buildUpFrom_57 : decode cX4_buildUpFrom 57 = .ok (.putfield 107, 3) := by decide +kernel
theorem dX4_buildUpFrom_60 : decode cX4_buildUpFrom 60 = .ok (.iload_n 2, 1) := by decide +kernel
theorem dX4_buildUpFrom_61 : decode cX4_buildUpFrom 61 = .ok (.aload_n 3, 1) := by decide +kernel
theorem dX4_buildUpFrom_62 : decode cX4_buildUpFrom 62 = .ok (.getfield 93, 3) := by decide +kernel
theorem dX4_buildUpFrom_65 : decode cX4_buildUpFrom 65 = .ok (.invokevirtual 110, 3) := by decide +kernel
theorem dX4_buildUpFrom_68 : decode cX4_buildUpFrom 68 = .ok (.iadd, 1) := by decide +kernel
theorem dX4_buildUpFrom_69 : decode cX4_buildUpFrom 69 = .ok (.istore_n 2, 1) := by decide +kernel
theorem dX4_buildUpFrom_70 : decode cX4_buildUpFrom 70 = .ok (.aload_n 0, 1) := by decide +kernel
theorem dX4_buildUpFrom_71 : decode cX4_buildUpFrom 71 = .ok (.aload_n 3, 1) := by decide +kernel
theorem dX4_buildUpFrom_72 : decode cX4_buildUpFrom 72 = .ok (.getfield 111, 3) := by decide +kernel
theorem dX4_buildUpFrom_75 : decode cX4_buildUpFrom 75 = .ok (.invokevirtual 41, 3) := by decide +kernel
theorem dX4_buildUpFrom_78 : decode cX4_buildUpFrom 78 = .ok (.astore_n 3, 1) := by decide +kernel
theorem dX4_buildUpFrom_79 : decode cX4_buildUpFrom 79 = .ok (.iinc 4 (-1), 3) := by decide +kernel
theorem dX4_buildUpFrom_82 : decode cX4_buildUpFrom 82 = .ok (.goto (-68), 3) := by decide +kernel
theorem dX4_buildUpFrom_85 : decode cX4_buildUpFrom 85 = .ok (.aload_n 0, 1) := by decide +kernel
theorem dX4_buildUpFrom_86 : decode cX4_buildUpFrom 86 = .ok (.dup, 1) := by decide +kernel
theorem dX4_buildUpFrom_87 : decode cX4_buildUpFrom 87 = .ok (.getfield 114, 3) := by decide +kernel
theorem dX4_buildUpFrom_90 : decode cX4_buildUpFrom 90 = .ok (.iload_n 2, 1) := by decide +kernel
theorem dX4_buildUpFrom_91 : decode cX4_buildUpFrom 91 = .ok (.iadd, 1) := by decide +kernel
theorem dX4_buildUpFrom_92 : decode cX4_buildUpFrom 92 = .ok (.putfield 114, 3) := by decide +kernel
theorem dX4_buildUpFrom_95 : decode cX4_buildUpFrom 95 = .ok (.iload_n 2, 1) := by decide +kernel
theorem dX4_buildUpFrom_96 : decode cX4_buildUpFrom 96 = .ok (.ireturn, 1) := by decide +kernel
theorem dX4_entriesOf_0 : decode cX4_entriesOf 0 = .ok (.iload_n 1, 1) := by decide +kernel
theorem dX4_entriesOf_1 : decode cX4_entriesOf 1 = .ok (.iconst (-1), 1) := by decide +kernel
theorem dX4_entriesOf_2 : decode cX4_entriesOf 2 = .ok (.if_icmp .ne 10, 3) := by decide +kernel
theorem dX4_entriesOf_5 : decode cX4_entriesOf 5 = .ok (.aload_n 0, 1) := by decide +kernel
theorem dX4_entriesOf_6 : decode cX4_entriesOf 6 = .ok (.getfield 27, 3) := by decide +kernel
theorem dX4_entriesOf_9 : decode cX4_entriesOf 9 = .ok (.goto 14, 3) := by decide +kernel
theorem dX4_entriesOf_12 : decode cX4_entriesOf 12 = .ok (.aload_n 0, 1) := by decide +kernel
theorem dX4_entriesOf_13 : decode cX4_entriesOf 13 = .ok (.iload_n 1, 1) := by decide +kernel
theorem dX4_entriesOf_14 : decode cX4_entriesOf 14 = .ok (.invokevirtual 41, 3) := by decide +kernel
theorem dX4_entriesOf_17 : decode cX4_entriesOf 17 = .ok (.getfield 93, 3) := by decide +kernel
theorem dX4_entriesOf_20 : decode cX4_entriesOf 20 = .ok (.getfield 117, 3) := by decide +kernel
theorem dX4_entriesOf_23 : decode cX4_entriesOf 23 = .ok (.areturn, 1) := by decide +kernel
theorem dX4_keysOfAll_0 : decode cX4_keysOfAll 0 = .ok (.iconst 0, 1) := by decide +kernel
theorem dX4_keysOfAll_1 : decode cX4_keysOfAll 1 = .ok (.istore_n 1, 1) := by decide +kernel
theorem dX4_keysOfAll_2 : decode cX4_keysOfAll 2 = .ok (.iconst 0, 1) := by decide +kernel
theorem dX4_keysOfAll_3 : decode cX4_keysOfAll 3 = .ok (.istore_n 2, 1) := by decide +kernel
theorem dX4_keysOfAll_4 : decode cX4_keysOfAll 4 = .ok (.iload_n 2, 1) := by decide +kernel
theorem dX4_keysOfAll_5 : decode cX4_keysOfAll 5 = .ok (.aload_n 0, 1) := by decide +kernel
theorem dX4_keysOfAll_6 : decode cX4_keysOfAll 6 = .ok (.getfield 31, 3) := by decide +kernel
theorem dX4_keysOfAll_9 : decode cX4_keysOfAll 9 = .ok (.if_icmp .ge 20, 3) := by decide +kernel
theorem dX4_keysOfAll_12 : decode cX4_keysOfAll 12 = .ok (.iload_n 1, 1) := by decide +kernel
theorem dX4_keysOfAll_13 : decode cX4_keysOfAll 13 = .ok (.aload_n 0, 1) := by decide +kernel
theorem dX4_keysOfAll_14 : decode cX4_keysOfAll 14 = .ok (.iload_n 2, 1) := by decide +kernel
theorem dX4_keysOfAll_15 : decode cX4_keysOfAll 15 = .ok (.invokevirtual 41, 3) := by decide +kernel
theorem dX4_keysOfAll_18 : decode cX4_keysOfAll 18 = .ok (.invokevirtual 120, 3) := by decide +kernel
theorem dX4_keysOfAll_21 : decode cX4_keysOfAll 21 = .ok (.iadd, 1) := by decide +kernel
theorem dX4_keysOfAll_22 : decode cX4_keysOfAll 22 = .ok (.istore_n 1, 1) := by decide +kernel
theorem dX4_keysOfAll_23 : decode cX4_keysOfAll 23 = .ok (.iinc 2 1, 3) := by decide +kernel
theorem dX4_keysOfAll_26 : decode cX4_keysOfAll 26 = .ok (.goto (-22), 3) := by decide +kernel
theorem dX4_keysOfAll_29 : decode cX4_keysOfAll 29 = .ok (.iload_n 1, 1) := by decide +kernel
theorem dX4_keysOfAll_30 : decode cX4_keysOfAll 30 = .ok (.ireturn, 1) := by decide +kernel
theorem dX4_entriesOfAll_0 : decode cX4_entriesOfAll 0 = .ok (.iconst 0, 1) := by decide +kernel
theorem dX4_entriesOfAll_1 : decode cX4_entriesOfAll 1 = .ok (.istore_n 1, 1) := by decide +kernel
theorem dX4_entriesOfAll_2 : decode cX4_entriesOfAll 2 = .ok (.iconst 0, 1) := by decide +kernel
theorem dX4_entriesOfAll_3 : decode cX4_entriesOfAll 3 = .ok (.istore_n 2, 1) := by decide +kernel
theorem dX4_entriesOfAll_4 : decode cX4_entriesOfAll 4 = .ok (.iload_n 2, 1) := by decide +kernel
theorem dX4_entriesOfAll_5 : decode cX4_entriesOfAll 5 = .ok (.aload_n 0, 1) := by decide +kernel
theorem dX4_entriesOfAll_6 : decode cX4_entriesOfAll 6 = .ok (.getfield 31, 3) := by decide +kernel
theorem dX4_entriesOfAll_9 : decode cX4_entriesOfAll 9 = .ok (.if_icmp .ge 23, 3) := by decide +kernel
theorem dX4_entriesOfAll_12 : decode cX4_entriesOfAll 12 = .ok (.iload_n 1, 1) := by decide +kernel
theorem dX4_entriesOfAll_13 : decode cX4_entriesOfAll 13 = .ok (.aload_n 0, 1) := by decide +kernel
theorem dX4_entriesOfAll_14 : decode cX4_entriesOfAll 14 = .ok (.iload_n 2, 1) := by decide +kernel
theorem dX4_entriesOfAll_15 : decode cX4_entriesOfAll 15 = .ok (.invokevirtual 41, 3) := by decide +kernel
theorem dX4_entriesOfAll_18 : decode cX4_entriesOfAll 18 = .ok (.getfield 93, 3) := by decide +kernel
theorem dX4_entriesOfAll_21 : decode cX4_entriesOfAll 21 = .ok (.invokevirtual 110, 3) := by decide +kernel
theorem dX4_entriesOfAll_24 : decode cX4_entriesOfAll 24 = .ok (.iadd, 1) := by decide +kernel
theorem dX4_entriesOfAll_25 : decode cX4_entriesOfAll 25 = .ok (.istore_n 1, 1) := by decide +kernel
theorem dX4_entriesOfAll_26 : decode cX4_entriesOfAll 26 = .ok (.iinc 2 1, 3) := by decide +kernel
theorem dX4_entriesOfAll_29 : decode cX4_entriesOfAll 29 = .ok (.goto (-25), 3) := by decide +kernel
theorem dX4_entriesOfAll_32 : decode cX4_entriesOfAll 32 = .ok (.iload_n 1, 1) := by decide +kernel
theorem dX4_entriesOfAll_33 : decode cX4_entriesOfAll 33 = .ok (.ireturn, 1) := by decide +kernel
theorem dX4_copyFrom_0 : decode cX4_copyFrom 0 = .ok (.aload_n 0, 1) := by decide +kernel
theorem dX4_copyFrom_1 : decode cX4_copyFrom 1 = .ok (.aload_n 1, 1) := by decide +kernel
theorem dX4_copyFrom_2 : decode cX4_copyFrom 2 = .ok (.getfield 31, 3) := by decide +kernel
theorem dX4_copyFrom_5 : decode cX4_copyFrom 5 = .ok (.putfield 31, 3) := by decide +kernel
theorem dX4_copyFrom_8 : decode cX4_copyFrom 8 = .ok (.aload_n 0, 1) := by decide +kernel
theorem dX4_copyFrom_9 : decode cX4_copyFrom 9 = .ok (.aload_n 1, 1) := by decide +kernel
theorem dX4_copyFrom_10 : decode cX4_copyFrom 10 = .ok (.getfield 35, 3) := by decide +kernel
theorem dX4_copyFrom_13 : decode cX4_copyFrom 13 = .ok (.putfield 35, 3) := by decide +kernel
theorem dX4_copyFrom_16 : decode cX4_copyFrom 16 = .ok (.aload_n 0, 1) := by decide +kernel
theorem dX4_copyFrom_17 : decode cX4_copyFrom 17 = .ok (.aload_n 1, 1) := by decide +kernel
theorem dX4_copyFrom_18 : decode cX4_copyFrom 18 = .ok (.getfield 38, 3) := by decide +kernel
theorem dX4_copyFrom_21 : decode cX4_copyFrom 21 = .ok (.putfield 38, 3) := by decide +kernel
theorem dX4_copyFrom_24 : decode cX4_copyFrom 24 = .ok (.aload_n 0, 1) := by decide +kernel
theorem dX4_copyFrom_25 : decode cX4_copyFrom 25 = .ok (.aload_n 1, 1) := by decide +kernel
theorem dX4_copyFrom_26 : decode cX4_copyFrom 26 = .ok (.getfield 123, 3) := by decide +kernel
theorem dX4_copyFrom_29 : decode cX4_copyFrom 29 = .ok (.putfield 123, 3) := by decide +kernel
theorem dX4_copyFrom_32 : decode cX4_copyFrom 32 = .ok (.aload_n 0, 1) := by decide +kernel
theorem dX4_copyFrom_33 : decode cX4_copyFrom 33 = .ok (.aload_n 1, 1) := by decide +kernel
theorem dX4_copyFrom_34 : decode cX4_copyFrom 34 = .ok (.getfield 126, 3) := by decide +kernel
theorem dX4_copyFrom_37 : decode cX4_copyFrom 37 = .ok (.putfield 126, 3) := by decide +kernel
theorem dX4_copyFrom_40 : decode cX4_copyFrom 40 = .ok (.aload_n 0, 1) := by decide +kernel
theorem dX4_copyFrom_41 : decode cX4_copyFrom 41 = .ok (.aload_n 1, 1) := by decide +kernel
theorem dX4_copyFrom_42 : decode cX4_copyFrom 42 = .ok (.getfield 107, 3) := by decide +kernel
theorem dX4_copyFrom_45 : decode cX4_copyFrom 45 = .ok (.putfield 107, 3) := by decide +kernel
theorem dX4_copyFrom_48 : decode cX4_copyFrom 48 = .ok (.aload_n 0, 1) := by decide +kernel
theorem dX4_copyFrom_49 : decode cX4_copyFrom 49 = .ok (.aload_n 1, 1) := by decide +kernel
theorem dX4_copyFrom_50 : decode cX4_copyFrom 50 = .ok (.getfield 114, 3) := by decide +kernel
theorem dX4_copyFrom_53 : decode cX4_copyFrom 53 = .ok (.putfield 114, 3) := by decide +kernel
theorem dX4_copyFrom_56 : decode cX4_copyFrom 56 = .ok (.aload_n 0, 1) := by decide +kernel
theorem dX4_copyFrom_57 : decode cX4_copyFrom 57 = .ok (.aload_n 1, 1) := by decide +kernel
theorem dX4_copyFrom_58 : decode cX4_copyFrom 58 = .ok (.getfield 90, 3) := by decide +kernel
theorem dX4_copyFrom_61 : decode cX4_copyFrom 61 = .ok (.putfield 90, 3) := by decide +kernel
theorem dX4_copyFrom_64 : decode cX4_copyFrom 64 = .ok (.iconst 0, 1) := by decide +kernel
theorem dX4_copyFrom_65 : decode cX4_copyFrom 65 = .ok (.istore_n 2, 1) := by decide +kernel
theorem dX4_copyFrom_66 : decode cX4_copyFrom 66 = .ok (.iload_n 2, 1) := by decide +kernel
theorem dX4_copyFrom_67 : decode cX4_copyFrom 67 = .ok (.aload_n 0, 1) := by decide +kernel
theorem dX4_copyFrom_68 : decode cX4_copyFrom 68 = .ok (.getfield 31, 3) := by decide +kernel
theorem dX4_copyFrom_71 : decode cX4_copyFrom 71 = .ok (.if_icmp .ge 22, 3) := by decide +kernel
theorem dX4_copyFrom_74 : decode cX4_copyFrom 74 = .ok (.aload_n 0, 1) := by decide +kernel
theorem dX4_copyFrom_75 : decode cX4_copyFrom 75 = .ok (.iload_n 2, 1) := by decide +kernel
theorem dX4_copyFrom_76 : decode cX4_copyFrom 76 = .ok (.invokevirtual 41, 3) := by decide +kernel
theorem dX4_copyFrom_79 : decode cX4_copyFrom 79 = .ok (.aload_n 1, 1) := by decide +kernel
theorem dX4_copyFrom_80 : decode cX4_copyFrom 80 = .ok (.iload_n 2, 1) := by decide +kernel
theorem dX4_copyFrom_81 : decode cX4_copyFrom 81 = .ok (.invokevirtual 41, 3) := by decide +kernel
theorem dX4_copyFrom_84 : decode cX4_copyFrom 84 = .ok (.invokevirtual 129, 3) := by decide +kernel
theorem dX4_copyFrom_87 : decode cX4_copyFrom 87 = .ok (.iinc 2 1, 3) := by decide +kernel
theorem dX4_copyFrom_90 : decode cX4_copyFrom 90 = .ok (.goto (-24), 3) := by decide +kernel
theorem dX4_copyFrom_93 : decode cX4_copyFrom 93 = .ok (.return_, 1) := by decide +kernel
end
section
theorem dX5_init_0 : decode cX5_init 0 = .ok (.aload_n 0, 1) := by decide +kernel
theorem dX5_init_1 : decode cX5_init 1 = .ok (.invokespecial 3, 3) := by decide +kernel
theorem dX5_init_4 : decode cX5_init 4 = .ok (.aload_n 0, 1) := by decide +kernel
theorem dX5_init_5 : decode cX5_init 5 = .ok (.new 9, 3) := by decide +kernel
theorem dX5_init_8 : decode cX5_init 8 = .ok (.dup, 1) := by decide +kernel
theorem dX5_init_9 : decode cX5_init 9 = .ok (.bipush 15, 2) := by decide +kernel
theorem dX5_init_11 : decode cX5_init 11 = .ok (.invokespecial 11, 3) := by decide +kernel
theorem dX5_init_14 : decode cX5_init 14 = .ok (.putfield 14, 3) := by decide +kernel
theorem dX5_init_17 : decode cX5_init 17 = .ok (.aload_n 0, 1) := by decide +kernel
theorem dX5_init_18 : decode cX5_init 18 = .ok (.new 9, 3) := by decide +kernel
theorem dX5_init_21 : decode cX5_init 21 = .ok (.dup, 1) := by decide +kernel
theorem dX5_init_22 : decode cX5_init 22 = .ok (.bipush 15, 2) := by decide +kernel
theorem dX5_init_24 : decode cX5_init 24 = .ok (.invokespecial 11, 3) := by decide +kernel
theorem dX5_init_27 : decode cX5_init 27 = .ok (.putfield 20, 3) := by decide +kernel
theorem dX5_init_30 : decode cX5_init 30 = .ok (.return_, 1) := by decide +kernel
theorem dX5_bridged_0 : decode cX5_bridged 0 = .ok (.aload_n 0, 1) := by decide +kernel
theorem dX5_bridged_1 : decode cX5_bridged 1 = .ok (.aload_n 1, 1) := by decide +kernel
theorem dX5_bridged_2 : decode cX5_bridged 2 = .ok (.iload_n 2, 1) := by decide +kernel
theorem dX5_bridged_3 : decode cX5_bridged 3 = .ok (.invokevirtual 23, 3) := by decide +kernel
theorem dX5_bridged_6 : decode cX5_bridged 6 = .ok (.aload_n 0, 1) := by decide +kernel
theorem dX5_bridged_7 : decode cX5_bridged 7 = .ok (.aload_n 1, 1) := by decide +kernel
theorem dX5_bridged_8 : decode cX5_bridged 8 = .ok (.iload_n 3, 1) := by decide +kernel
theorem dX5_bridged_9 : decode cX5_bridged 9 = .ok (.invokevirtual 27, 3) := by decide +kernel
theorem dX5_bridged_12 : decode cX5_bridged 12 = .ok (.return_, 1) := by decide +kernel
theorem dX5_plain_0 : decode cX5_plain 0 = .ok (.aload_n 0, 1) := by decide +kernel
theorem dX5_plain_1 : decode cX5_plain 1 = .ok (.aload_n 1, 1) := by decide +kernel
theorem dX5_plain_2 : decode cX5_plain 2 = .ok (.iload_n 2, 1) := by decide +kernel
theorem dX5_plain_3 : decode cX5_plain 3 = .ok (.invokevirtual 23, 3) := by decide +kernel
theorem dX5_plain_6 : decode cX5_plain 6 = .ok (.aload_n 0, 1) := by decide +kernel
theorem dX5_plain_7 : decode cX5_plain 7 = .ok (.invokevirtual 30, 3) := by decide +kernel
theorem dX5_plain_10 : decode cX5_plain 10 = .ok (.iconst 0, 1) := by decide +kernel
theorem dX5_plain_11 : decode cX5_plain 11 = .ok (.istore 4, 2) := by decide +kernel
theorem dX5_plain_13 : decode cX5_plain 13 = .ok (.iload 4, 2) := by decide +kernel
theorem dX5_plain_15 : decode cX5_plain 15 = .ok (.aload_n 0, 1) := by decide +kernel
theorem dX5_plain_16 : decode cX5_plain 16 = .ok (.getfield 14, 3) := by decide +kernel
theorem dX5_plain_19 : decode cX5_plain 19 = .ok (.invokevirtual 33, 3) := by decide +kernel
theorem dX5_plain_22 : decode cX5_plain 22 = .ok (.if_icmp .ge 51, 3) := by decide +kernel
theorem dX5_plain_25 : decode cX5_plain 25 = .ok (.aload_n 0, 1) := by decide +kernel
theorem dX5_plain_26 : decode cX5_plain 26 = .ok (.getfield 14, 3) := by decide +kernel
theorem dX5_plain_29 : decode cX5_plain 29 = .ok (.iload 4, 2) := by decide +kernel
theorem dX5_plain_31 : decode cX5_plain 31 = .ok (.iconst 0, 1) := by decide +kernel
theorem dX5_plain_32 : decode cX5_plain 32 = .ok (.invokevirtual 37, 3) := by decide +kernel
theorem dX5_plain_35 : decode cX5_plain 35 = .ok (.istore 5, 2) := by decide +kernel
theorem dX5_plain_37 : decode cX5_plain 37 = .ok (.aload_n 0, 1) := by decide +kernel
theorem dX5_plain_38 : decode cX5_plain 38 = .ok (.aload_n 0, 1) := by decide +kernel
theorem dX5_plain_39 : decode cX5_plain 39 = .ok (.aload_n 1, 1) := by decide +kernel
theorem dX5_plain_40 : decode cX5_plain 40 = .ok (.iload 5, 2) := by decide +kernel
theorem dX5_plain_42 : decode cX5_plain 42 = .ok (.invokevirtual 41, 3) := by decide +kernel
theorem dX5_plain_45 : decode cX5_plain 45 = .ok (.getfield 46, 3) := by decide +kernel
theorem dX5_plain_48 : decode cX5_plain 48 = .ok (.iload_n 3, 1) := by decide +kernel
theorem dX5_plain_49 : decode cX5_plain 49 = .ok (.invokevirtual 51, 3) := by decide +kernel
theorem dX5_plain_52 : decode cX5_plain 52 = .ok (.putfield 55, 3) := by decide +kernel
theorem dX5_plain_55 : decode cX5_plain 55 = .ok (.aload_n 0, 1) := by decide +kernel
theorem dX5_plain_56 : decode cX5_plain 56 = .ok (.aload_n 1, 1) := by decide +kernel
theorem dX5_plain_57 : decode cX5_plain 57 = .ok (.iload 5, 2) := by decide +kernel
theorem dX5_plain_59 : decode cX5_plain 59 = .ok (.aload_n 0, 1) := by decide +kernel
theorem dX5_plain_60 : decode cX5_plain 60 = .ok (.getfield 55, 3) := by decide +kernel
theorem dX5_plain_63 : decode cX5_plain 63 = .ok (.iload_n 3, 1) := by decide +kernel
theorem dX5_plain_64 : decode cX5_plain 64 = .ok (.invokevirtual 59, 3) := by decide +kernel
theorem dX5_plain_67 : decode cX5_plain 67 = .ok (.iinc 4 1, 3) := by decide +kernel
theorem dX5_plain_70 : decode cX5_plain 70 = .ok (.goto (-57), 3) := by decide +kernel
theorem dX5_plain_73 : decode cX5_plain 73 = .ok (.return_, 1) := by decide +kernel
theorem dX5_mostProbes_0 : decode cX5_mostProbes 0 = .ok (.aload_n 0, 1) := by decide +kernel
theorem dX5_mostProbes_1 : decode cX5_mostProbes 1 = .ok (.aload_n 1, 1) := by decide +kernel
theorem dX5_mostProbes_2 : decode cX5_mostProbes 2 = .ok (.iload_n 2, 1) := by decide +kernel
theorem dX5_mostProbes_3 : decode cX5_mostProbes 3 = .ok (.invokevirtual 23, 3) := by decide +kernel
theorem dX5_mostProbes_6 : decode cX5_mostProbes 6 = .ok (.aload_n 0, 1) := by decide +kernel
theorem dX5_mostProbes_7 : decode cX5_mostProbes 7 = .ok (.aload_n 1, 1) := by decide +kernel
theorem dX5_mostProbes_8 : decode cX5_mostProbes 8 = .ok (.iconst 0, 1) := by decide +kernel
theorem dX5_mostProbes_9 : decode cX5_mostProbes 9 = .ok (.invokevirtual 27, 3) := by decide +kernel
theorem dX5_mostProbes_12 : decode cX5_mostProbes 12 = .ok (.aload_n 0, 1) := by decide +kernel
theorem dX5_mostProbes_13 : decode cX5_mostProbes 13 = .ok (.getfield 63, 3) := by decide +kernel
theorem dX5_mostProbes_16 : decode cX5_mostProbes 16 = .ok (.istore_n 3, 1) := by decide +kernel
theorem dX5_mostProbes_17 : decode cX5_mostProbes 17 = .ok (.iconst 0, 1) := by decide +kernel
theorem dX5_mostProbes_18 : decode cX5_mostProbes 18 = .ok (.istore 4, 2) := by decide +kernel
theorem dX5_mostProbes_20 : decode cX5_mostProbes 20 = .ok (.iload 4, 2) := by decide +kernel
theorem dX5_mostProbes_22 : decode cX5_mostProbes 22 = .ok (.aload_n 0, 1) := by decide +kernel
theorem dX5_mostProbes_23 : decode cX5_mostProbes 23 = .ok (.getfield 14, 3) := by decide +kernel
theorem dX5_mostProbes_26 : decode cX5_mostProbes 26 = .ok (.invokevirtual 33, 3) := by decide +kernel
theorem dX5_mostProbes_29 : decode cX5_mostProbes 29 = .ok (.if_icmp .ge 126, 3) := by decide +kernel
theorem dX5_mostProbes_32 : decode cX5_mostProbes 32 = .ok (.aload_n 1, 1) := by decide +kernel
theorem dX5_mostProbes_33 : decode cX5_mostProbes 33 = .ok (.aload_n 0, 1) := by decide +kernel
theorem dX5_mostProbes_34 : decode cX5_mostProbes 34 = .ok (.getfield 14, 3) := by decide +kernel
theorem dX5_mostProbes_37 : decode cX5_mostProbes 37 = .ok (.iload 4, 2) := by decide +kernel
theorem dX5_mostProbes_39 : decode cX5_mostProbes 39 = .ok (.iconst 0, 1) := by decide +kernel
theorem dX5_mostProbes_40 : decode cX5_mostProbes 40 = .ok (.invokevirtual 37, 3) := by decide +kernel
theorem dX5_mostProbes_43 : decode cX5_mostProbes 43 = .ok (.invokevirtual 41, 3) := by decide +kernel
theorem dX5_mostProbes_46 : decode cX5_mostProbes 46 = .ok (.getfield 66, 3) := by decide +kernel
theorem dX5_mostProbes_49 : decode cX5_mostProbes 49 = .ok (.astore 5, 2) := by decide +kernel
theorem dX5_mostProbes_51 : decode cX5_mostProbes 51 = .ok (.aload_n 0, 1) := by decide +kernel
theorem dX5_mostProbes_52 : decode cX5_mostProbes 52 = .ok (.getfield 20, 3) := by decide +kernel
theorem dX5_mostProbes_55 : decode cX5_mostProbes 55 = .ok (.iload 4, 2) := by decide +kernel
theorem dX5_mostProbes_57 : decode cX5_mostProbes 57 = .ok (.iconst 1, 1) := by decide +kernel
theorem dX5_mostProbes_58 : decode cX5_mostProbes 58 = .ok (.iadd, 1) := by decide +kernel
theorem dX5_mostProbes_59 : decode cX5_mostProbes 59 = .ok (.iconst (-1), 1) := by decide +kernel
theorem dX5_mostProbes_60 : decode cX5_mostProbes 60 = .ok (.invokevirtual 37, 3) := by decide +kernel
theorem dX5_mostProbes_63 : decode cX5_mostProbes 63 = .ok (.istore 6, 2) := by decide +kernel
theorem dX5_mostProbes_65 : decode cX5_mostProbes 65 = .ok (.iconst 0, 1) := by decide +kernel
theorem dX5_mostProbes_66 : decode cX5_mostProbes 66 = .ok (.istore 7, 2) := by decide +kernel
theorem dX5_mostProbes_68 : decode cX5_mostProbes 68 = .ok (.iload 7, 2) := by decide +kernel
theorem dX5_mostProbes_70 : decode cX5_mostProbes 70 = .ok (.aload 5, 2) := by decide +kernel
theorem dX5_mostProbes_72 : decode cX5_mostProbes 72 = .ok (.invokevirtual 70, 3) := by decide +kernel
theorem dX5_mostProbes_75 : decode cX5_mostProbes 75 = .ok (.if_icmp .ge 74, 3) := by decide +kernel
theorem dX5_mostProbes_78 : decode cX5_mostProbes 78 = .ok (.aload 5, 2) := by decide +kernel
theorem dX5_mostProbes_80 : decode cX5_mostProbes 80 = .ok (.getfield 73, 3) := by decide +kernel
theorem dX5_mostProbes_83 : decode cX5_mostProbes 83 = .ok (.iload 7, 2) := by decide +kernel
theorem dX5_mostProbes_85 : decode cX5_mostProbes 85 = .ok (.iconst (-1), 1) := by decide +kernel
theorem dX5_mostProbes_86 : decode cX5_mostProbes 86 = .ok (.invokevirtual 37, 3) := by decide +kernel
theorem dX5_mostProbes_89 : decode cX5_mostProbes 89 = .ok (.istore 8, 2) := by decide +kernel
theorem dX5_mostProbes_91 : decode cX5_mostProbes 91 = .ok (.iload 8, 2) := by decide +kernel
theorem dX5_mostProbes_93 : decode cX5_mostProbes 93 = .ok (.aload 5, 2) := by decide +kernel
theorem dX5_mostProbes_95 : decode cX5_mostProbes 95 = .ok (.getfield 73, 3) := by decide +kernel
theorem dX5_mostProbes_98 : decode cX5_mostProbes 98 = .ok (.iload 7, 2) := by decide +kernel
theorem dX5_mostProbes_100 : decode cX5_mostProbes 100 = .ok (.iconst 1, 1) := by decide +kernel
theorem dX5_mostProbes_101 : decode cX5_mostProbes 101 = .ok (.isub, 1) := by decide +kernel
theorem dX5_mostProbes_102 : decode cX5_mostProbes 102 = .ok (.iconst (-1), 1) := by decide +kernel
theorem dX5_mostProbes_103 : decode cX5_mostProbes 103 = .ok (.invokevirtual 37, 3) := by decide +kernel
theorem dX5_mostProbes_106 : decode cX5_mostProbes 106 = .ok (.if_icmp .eq 37, 3) := by decide +kernel
theorem dX5_mostProbes_109 : decode cX5_mostProbes 109 = .ok (.aload 5, 2) := by decide +kernel
theorem dX5_mostProbes_111 : decode cX5_mostProbes 111 = .ok (.getfield 76, 3) := by decide +kernel
theorem dX5_mostProbes_114 : decode cX5_mostProbes 114 = .ok (.iload 7, 2) := by decide +kernel
theorem dX5_mostProbes_116 : decode cX5_mostProbes 116 = .ok (.iconst (-1), 1) := by decide +kernel
theorem dX5_mostProbes_117 : decode cX5_mostProbes 117 = .ok (.invokevirtual 37, 3) := by decide +kernel
theorem dX5_mostProbes_120 : decode cX5_mostProbes 120 = .ok (.iload 6, 2) := by decide +kernel
theorem dX5_mostProbes_122 : decode cX5_mostProbes 122 = .ok (.if_icmp .eq 21, 3) := by decide +kernel
theorem dX5_mostProbes_125 : decode cX5_mostProbes 125 = .ok (.aload_n 0, 1) := by decide +kernel
theorem dX5_mostProbes_126 : decode cX5_mostProbes 126 = .ok (.aload_n 1, 1) := by decide +kernel
theorem dX5_mostProbes_127 : decode cX5_mostProbes 127 = .ok (.iload 8, 2) := by decide +kernel
theorem dX5_mostProbes_129 : decode cX5_mostProbes 129 = .ok (.iconst 1, 1) := by decide +kernel
theorem dX5_mostProbes_130 : decode cX5_mostProbes 130 = .ok (.iadd, 1) := by decide +kernel
theorem dX5_mostProbes_131 : decode cX5_mostProbes 131 = .ok (.invokevirtual 27, 3) := by decide +kernel
theorem dX5_mostProbes_134 : decode cX5_mostProbes 134 = .ok (.iload_n 3, 1) := by decide +kernel
theorem dX5_mostProbes_135 : decode cX5_mostProbes 135 = .ok (.aload_n 0, 1) := by decide +kernel
theorem dX5_mostProbes_136 : decode cX5_mostProbes 136 = .ok (.getfield 63, 3) := by decide +kernel
theorem dX5_mostProbes_139 : decode cX5_mostProbes 139 = .ok (.invokestatic 79, 3) := by decide +kernel
theorem dX5_mostProbes_142 : decode cX5_mostProbes 142 = .ok (.istore_n 3, 1) := by decide +kernel
theorem dX5_mostProbes_143 : decode cX5_mostProbes 143 = .ok (.iinc 7 1, 3) := by decide +kernel
theorem dX5_mostProbes_146 : decode cX5_mostProbes 146 = .ok (.goto (-78), 3) := by decide +kernel
theorem dX5_mostProbes_149 : decode cX5_mostProbes 149 = .ok (.iinc 4 1, 3) := by decide +kernel
theorem dX5_mostProbes_152 : decode cX5_mostProbes 152 = .ok (.goto (-132), 3) := by decide +kernel
theorem dX5_mostProbes_155 : decode cX5_mostProbes 155 = .ok (.iload_n 3, 1) := by decide +kernel
theorem dX5_mostProbes_156 : decode cX5_mostProbes 156 = .ok (.ireturn, 1) := by decide +kernel
theorem dX5_layPath_0 : decode cX5_layPath 0 = .ok (.aload_n 0, 1) := by decide +kernel
theorem dX5_layPath_1 : decode cX5_layPath 1 = .ok (.getfield 14, 3) := by decide +kernel
theorem dX5_layPath_4 : decode cX5_layPath 4 = .ok (.iconst 0, 1) := by decide +kernel
theorem dX5_layPath_5 : decode cX5_layPath 5 = .ok (.invokevirtual 84, 3) := by decide +kernel
theorem dX5_layPath_8 : decode cX5_layPath 8 = .ok (.aload_n 0, 1) := by decide +kernel
theorem dX5_layPath_9 : decode cX5_layPath 9 = .ok (.getfield 20, 3) := by decide +kernel
theorem dX5_layPath_12 : decode cX5_layPath 12 = .ok (.iconst 0, 1) := by decide +kernel
theorem dX5_layPath_13 : decode cX5_layPath 13 = .ok (.invokevirtual 84, 3) := by decide +kernel
theorem dX5_layPath_16 : decode cX5_layPath 16 = .ok (.iload_n 2, 1) := by decide +kernel
theorem dX5_layPath_17 : decode cX5_layPath 17 = .ok (.istore_n 3, 1) := by decide +kernel
theorem dX5_layPath_18 : decode cX5_layPath 18 = .ok (.aload_n 1, 1) := by decide +kernel
theorem dX5_layPath_19 : decode cX5_layPath 19 = .ok (.iload_n 2, 1) := by decide +kernel
theorem dX5_layPath_20 : decode cX5_layPath 20 = .ok (.invokevirtual 41, 3) := by decide +kernel
theorem dX5_layPath_23 : decode cX5_layPath 23 = .ok (.getfield 87, 3) := by decide +kernel
theorem dX5_layPath_26 : decode cX5_layPath 26 = .ok (.istore 4, 2) := by decide +kernel
theorem dX5_layPath_28 : decode cX5_layPath 28 = .ok (.iload 4, 2) := by decide +kernel
theorem dX5_layPath_30 : decode cX5_layPath 30 = .ok (.ifCond .lt 57, 3) := by decide +kernel
theorem dX5_layPath_33 : decode cX5_layPath 33 = .ok (.aload_n 1, 1) := by decide +kernel
theorem dX5_layPath_34 : decode cX5_layPath 34 = .ok (.iload_n 3, 1) := by decide +kernel
theorem dX5_layPath_35 : decode cX5_layPath 35 = .ok (.invokevirtual 41, 3) := by decide +kernel
theorem dX5_layPath_38 : decode cX5_layPath 38 = .ok (.getfield 90, 3) := by decide +kernel
theorem dX5_layPath_41 : decode cX5_layPath 41 = .ok (.istore 5, 2) := by decide +kernel
theorem dX5_layPath_43 : decode cX5_layPath 43 = .ok (.aload_n 0, 1) := by decide +kernel
theorem dX5_layPath_44 : decode cX5_layPath 44 = .ok (.getfield 14, 3) := by decide +kernel
theorem dX5_layPath_47 : decode cX5_layPath 47 = .ok (.iconst 0, 1) := by decide +kernel
theorem dX5_layPath_48 : decode cX5_layPath 48 = .ok (.iload_n 3, 1) := by decide +kernel
theorem dX5_layPath_49 : decode cX5_layPath 49 = .ok (.invokevirtual 93, 3) := by decide +kernel
theorem dX5_layPath_52 : decode cX5_layPath 52 = .ok (.aload_n 0, 1) := by decide +kernel
theorem dX5_layPath_53 : decode cX5_layPath 53 = .ok (.getfield 20, 3) := by decide +kernel
theorem dX5_layPath_56 : decode cX5_layPath 56 = .ok (.iconst 0, 1) := by decide +kernel
theorem dX5_layPath_57 : decode cX5_layPath 57 = .ok (.aload_n 1, 1) := by decide +kernel
theorem dX5_layPath_58 : decode cX5_layPath 58 = .ok (.iload 5, 2) := by decide +kernel
theorem dX5_layPath_60 : decode cX5_layPath 60 = .ok (.invokevirtual 41, 3) := by decide +kernel
theorem dX5_layPath_63 : decode cX5_layPath 63 = .ok (.getfield 97, 3) := by decide +kernel
theorem dX5_layPath_66 : decode cX5_layPath 66 = .ok (.iload_n 3, 1) := by decide +kernel
theorem dX5_layPath_67 : decode cX5_layPath 67 = .ok (.if_icmp .ne 7, 3) := by decide +kernel
theorem dX5_layPath_70 : decode cX5_layPath 70 = .ok (.iconst 1, 1) := by decide +kernel
theorem dX5_layPath_71 : decode cX5_layPath 71 = .ok (.goto 4, 3) := by decide +kernel
theorem dX5_layPath_74 : decode cX5_layPath 74 = .ok (.iconst 2, 1) := by decide +kernel
theorem dX5_layPath_75 : decode cX5_layPath 75 = .ok (.invokevirtual 93, 3) := by decide +kernel
theorem dX5_layPath_78 : decode cX5_layPath 78 = .ok (.iload 5, 2) := by decide +kernel
theorem dX5_layPath_80 : decode cX5_layPath 80 = .ok (.istore_n 3, 1) := by decide +kernel
theorem dX5_layPath_81 : decode cX5_layPath 81 = .ok (.iinc 4 (-1), 3) := by decide +kernel
theorem dX5_layPath_84 : decode cX5_layPath 84 = .ok (.goto (-56), 3) := by decide +kernel
theorem dX5_layPath_87 : decode cX5_layPath 87 = .ok (.return_, 1) := by decide +kernel
theorem dX5_start_0 : decode cX5_start 0 = .ok (.aload_n 0, 1) := by decide +kernel
theorem dX5_start_1 : decode cX5_start 1 = .ok (.iconst 0, 1) := by decide +kernel
theorem dX5_start_2 : decode cX5_start 2 = .ok (.putfield 63, 3) := by decide +kernel
theorem dX5_start_5 : decode cX5_start 5 = .ok (.aload_n 0, 1) := by decide +kernel
theorem dX5_start_6 : decode cX5_start 6 = .ok (.iconst 0, 1) := by decide +kernel
theorem dX5_start_7 : decode cX5_start 7 = .ok (.putfield 55, 3) := by decide +kernel
theorem dX5_start_10 : decode cX5_start 10 = .ok (.aload_n 0, 1) := by decide +kernel
theorem dX5_start_11 : decode cX5_start 11 = .ok (.iconst (-1), 1) := by decide +kernel
theorem dX5_start_12 : decode cX5_start 12 = .ok (.putfield 100, 3) := by decide +kernel
theorem dX5_start_15 : decode cX5_start 15 = .ok (.aload_n 0, 1) := by decide +kernel
theorem dX5_start_16 : decode cX5_start 16 = .ok (.iconst (-1), 1) := by decide +kernel
theorem dX5_start_17 : decode cX5_start 17 = .ok (.putfield 103, 3) := by decide +kernel
theorem dX5_start_20 : decode cX5_start 20 = .ok (.aload_n 0, 1) := by decide +kernel
theorem dX5_start_21 : decode cX5_start 21 = .ok (.iconst (-1), 1) := by decide +kernel
theorem dX5_start_22 : decode cX5_start 22 = .ok (.putfield 106, 3) := by decide +kernel
theorem dX5_start_25 : decode cX5_start 25 = .ok (.return_, 1) := by decide +kernel
theorem dX5_searchPath_0 : decode cX5_searchPath 0 = .ok (.aload_n 0, 1) := by decide +kernel
theorem dX5_searchPath_1 : decode cX5_searchPath 1 = .ok (.invokevirtual 30, 3) := by decide +kernel
theorem dX5_searchPath_4 : decode cX5_searchPath 4 = .ok (.iconst 0, 1) := by decide +kernel
theorem dX5_searchPath_5 : decode cX5_searchPath 5 = .ok (.istore_n 3, 1) := by decide +kernel
theorem dX5_searchPath_6 : decode cX5_searchPath 6 = .ok (.iload_n 3, 1) := by decide +kernel
theorem dX5_searchPath_7 : decode cX5_searchPath 7 = .ok (.aload_n 0, 1) := by decide +kernel
theorem dX5_searchPath_8 : decode cX5_searchPath 8 = .ok (.getfield 14, 3) := by decide +kernel
theorem dX5_searchPath_11 : decode cX5_searchPath 11 = .ok (.invokevirtual 33, 3) := by decide +kernel
theorem dX5_searchPath_14 : decode cX5_searchPath 14 = .ok (.if_icmp .ge 126, 3) := by decide +kernel
theorem dX5_searchPath_17 : decode cX5_searchPath 17 = .ok (.aload_n 0, 1) := by decide +kernel
theorem dX5_searchPath_18 : decode cX5_searchPath 18 = .ok (.getfield 14, 3) := by decide +kernel
theorem dX5_searchPath_21 : decode cX5_searchPath 21 = .ok (.iload_n 3, 1) := by decide +kernel
theorem dX5_searchPath_22 : decode cX5_searchPath 22 = .ok (.iconst 0, 1) := by decide +kernel
theorem dX5_searchPath_23 : decode cX5_searchPath 23 = .ok (.invokevirtual 37, 3) := by decide +kernel
theorem dX5_searchPath_26 : decode cX5_searchPath 26 = .ok (.istore 4, 2) := by decide +kernel
theorem dX5_searchPath_28 : decode cX5_searchPath 28 = .ok (.aload_n 1, 1) := by decide +kernel
theorem dX5_searchPath_29 : decode cX5_searchPath 29 = .ok (.iload 4, 2) := by decide +kernel
theorem dX5_searchPath_31 : decode cX5_searchPath 31 = .ok (.invokevirtual 41, 3) := by decide +kernel
theorem dX5_searchPath_34 : decode cX5_searchPath 34 = .ok (.astore 5, 2) := by decide +kernel
theorem dX5_searchPath_36 : decode cX5_searchPath 36 = .ok (.iload_n 3, 1) := by decide +kernel
theorem dX5_searchPath_37 : decode cX5_searchPath 37 = .ok (.ifCond .ne 23, 3) := by decide +kernel
theorem dX5_searchPath_40 : decode cX5_searchPath 40 = .ok (.aload_n 0, 1) := by decide +kernel
theorem dX5_searchPath_41 : decode cX5_searchPath 41 = .ok (.aload_n 0, 1) := by decide +kernel
theorem dX5_searchPath_42 : decode cX5_searchPath 42 = .ok (.aload 5, 2) := by decide +kernel
theorem dX5_searchPath_44 : decode cX5_searchPath 44 = .ok (.getfield 66, 3) := by decide +kernel
theorem dX5_searchPath_47 : decode cX5_searchPath 47 = .ok (.getfield 73, 3) := by decide +kernel
theorem dX5_searchPath_50 : decode cX5_searchPath 50 = .ok (.iload_n 2, 1) := by decide +kernel
theorem dX5_searchPath_51 : decode cX5_searchPath 51 = .ok (.invokevirtual 51, 3) := by decide +kernel
theorem dX5_searchPath_54 : decode cX5_searchPath 54 = .ok (.putfield 55, 3) := by decide +kernel
theorem dX5_searchPath_57 : decode cX5_searchPath 57 = .ok (.goto 56, 3) := by decide +kernel
theorem dX5_searchPath_60 : decode cX5_searchPath 60 = .ok (.aload_n 1, 1) := by decide +kernel
theorem dX5_searchPath_61 : decode cX5_searchPath 61 = .ok (.aload 5, 2) := by decide +kernel
theorem dX5_searchPath_63 : decode cX5_searchPath 63 = .ok (.getfield 90, 3) := by decide +kernel
theorem dX5_searchPath_66 : decode cX5_searchPath 66 = .ok (.invokevirtual 41, 3) := by decide +kernel
theorem dX5_searchPath_69 : decode cX5_searchPath 69 = .ok (.getfield 66, 3) := by decide +kernel
theorem dX5_searchPath_72 : decode cX5_searchPath 72 = .ok (.astore 6, 2) := by decide +kernel
theorem dX5_searchPath_74 : decode cX5_searchPath 74 = .ok (.aload 6, 2) := by decide +kernel
theorem dX5_searchPath_76 : decode cX5_searchPath 76 = .ok (.aload_n 0, 1) := by decide +kernel
theorem dX5_searchPath_77 : decode cX5_searchPath 77 = .ok (.getfield 55, 3) := by decide +kernel
theorem dX5_searchPath_80 : decode cX5_searchPath 80 = .ok (.aload_n 0, 1) := by decide +kernel
theorem dX5_searchPath_81 : decode cX5_searchPath 81 = .ok (.getfield 20, 3) := by decide +kernel
theorem dX5_searchPath_84 : decode cX5_searchPath 84 = .ok (.iload_n 3, 1) := by decide +kernel
theorem dX5_searchPath_85 : decode cX5_searchPath 85 = .ok (.iconst 1, 1) := by decide +kernel
theorem dX5_searchPath_86 : decode cX5_searchPath 86 = .ok (.invokevirtual 37, 3) := by decide +kernel
theorem dX5_searchPath_89 : decode cX5_searchPath 89 = .ok (.invokevirtual 109, 3) := by decide +kernel
theorem dX5_searchPath_92 : decode cX5_searchPath 92 = .ok (.istore 7, 2) := by decide +kernel
theorem dX5_searchPath_94 : decode cX5_searchPath 94 = .ok (.aload_n 0, 1) := by decide +kernel
theorem dX5_searchPath_95 : decode cX5_searchPath 95 = .ok (.aload_n 0, 1) := by decide +kernel
theorem dX5_searchPath_96 : decode cX5_searchPath 96 = .ok (.aload 5, 2) := by decide +kernel
theorem dX5_searchPath_98 : decode cX5_searchPath 98 = .ok (.getfield 66, 3) := by decide +kernel
theorem dX5_searchPath_101 : decode cX5_searchPath 101 = .ok (.getfield 73, 3) := by decide +kernel
theorem dX5_searchPath_104 : decode cX5_searchPath 104 = .ok (.iload 7, 2) := by decide +kernel
theorem dX5_searchPath_106 : decode cX5_searchPath 106 = .ok (.iload_n 2, 1) := by decide +kernel
theorem dX5_searchPath_107 : decode cX5_searchPath 107 = .ok (.invokevirtual 112, 3) := by decide +kernel
theorem dX5_searchPath_110 : decode cX5_searchPath 110 = .ok (.putfield 55, 3) := by decide +kernel
theorem dX5_searchPath_113 : decode cX5_searchPath 113 = .ok (.aload_n 0, 1) := by decide +kernel
theorem dX5_searchPath_114 : decode cX5_searchPath 114 = .ok (.aload_n 1, 1) := by decide +kernel
theorem dX5_searchPath_115 : decode cX5_searchPath 115 = .ok (.iload 4, 2) := by decide +kernel
theorem dX5_searchPath_117 : decode cX5_searchPath 117 = .ok (.aload 5, 2) := by decide +kernel
theorem dX5_searchPath_119 : decode cX5_searchPath 119 = .ok (.getfield 66, 3) := by decide +kernel
theorem dX5_searchPath_122 : decode cX5_searchPath 122 = .ok (.aload_n 0, 1) := by decide +kernel
theorem dX5_searchPath_123 : decode cX5_searchPath 123 = .ok (.getfield 55, 3) := by decide +kernel
theorem dX5_searchPath_126 : decode cX5_searchPath 126 = .ok (.iconst 0, 1) := by decide +kernel
theorem dX5_searchPath_127 : decode cX5_searchPath 127 = .ok (.invokevirtual 109, 3) := by decide +kernel
theorem dX5_searchPath_130 : decode cX5_searchPath 130 = .ok (.iload_n 2, 1) := by decide +kernel
theorem dX5_searchPath_131 : decode cX5_searchPath 131 = .ok (.invokevirtual 59, 3) := by decide +kernel
theorem dX5_searchPath_134 : decode cX5_searchPath 134 = .ok (.iinc 3 1, 3) := by decide +kernel
theorem dX5_searchPath_137 : decode cX5_searchPath 137 = .ok (.goto (-131), 3) := by decide +kernel
theorem dX5_searchPath_140 : decode cX5_searchPath 140 = .ok (.return_, 1) := by decide +kernel
theorem dX5_halve_0 : decode cX5_halve 0 = .ok (.iconst 0, 1) := by decide +kernel
theorem dX5_halve_1 : decode cX5_halve 1 = .ok (.istore_n 3, 1) := by decide +kernel
theorem dX5_halve_2 : decode cX5_halve 2 = .ok (.aload_n 1, 1) := by decide +kernel
theorem dX5_halve_3 : decode cX5_halve 3 = .ok (.invokevirtual 33, 3) := by decide +kernel
theorem dX5_halve_6 : decode cX5_halve 6 = .ok (.istore 4, 2) := by decide +kernel
theorem dX5_halve_8 : decode cX5_halve 8 = .ok (.iload_n 3, 1) := by decide +kernel
theorem dX5_halve_9 : decode cX5_halve 9 = .ok (.iload 4, 2) := by decide +kernel
theorem dX5_halve_11 : decode cX5_halve 11 = .ok (.if_icmp .ge 49, 3) := by decide +kernel
theorem dX5_halve_14 : decode cX5_halve 14 = .ok (.iload_n 3, 1) := by decide +kernel
theorem dX5_halve_15 : decode cX5_halve 15 = .ok (.iload 4, 2) := by decide +kernel
theorem dX5_halve_17 : decode cX5_halve 17 = .ok (.iadd, 1) := by decide +kernel
theorem dX5_halve_18 : decode cX5_halve 18 = .ok (.iconst 2, 1) := by decide +kernel
theorem dX5_halve_19 : decode cX5_halve 19 = .ok (.idiv, 1) := by decide +kernel
theorem dX5_halve_20 : decode cX5_halve 20 = .ok (.istore 5, 2) := by decide +kernel
theorem dX5_halve_22 : decode cX5_halve 22 = .ok (.aload_n 0, 1) := by decide +kernel
theorem dX5_halve_23 : decode cX5_halve 23 = .ok (.dup, 1) := by decide +kernel
theorem dX5_halve_24 : decode cX5_halve 24 = .ok (.getfield 63, 3) := by decide +kernel
theorem dX5_halve_27 : decode cX5_halve 27 = .ok (.iconst 1, 1) := by decide +kernel
theorem dX5_halve_28 : decode cX5_halve 28 = .ok (.iadd, 1) := by decide +kernel
theorem dX5_halve_29 : decode cX5_halve 29 = .ok (.putfield 63, 3) := by decide +kernel
theorem dX5_halve_32 : decode cX5_halve 32 = .ok (.aload_n 1, 1) := by decide +kernel
theorem dX5_halve_33 : decode cX5_halve 33 = .ok (.iload 5, 2) := by decide +kernel
theorem dX5_halve_35 : decode cX5_halve 35 = .ok (.sipush 10000, 3) := by decide +kernel
theorem dX5_halve_38 : decode cX5_halve 38 = .ok (.invokevirtual 37, 3) := by decide +kernel
theorem dX5_halve_41 : decode cX5_halve 41 = .ok (.iload_n 2, 1) := by decide +kernel
theorem dX5_halve_42 : decode cX5_halve 42 = .ok (.if_icmp .lt 10, 3) := by decide +kernel
theorem dX5_halve_45 : decode cX5_halve 45 = .ok (.iload 5, 2) := by decide +kernel
theorem dX5_halve_47 : decode cX5_halve 47 = .ok (.istore 4, 2) := by decide +kernel
theorem dX5_halve_49 : decode cX5_halve 49 = .ok (.goto 8, 3) := by decide +kernel
theorem dX5_halve_52 : decode cX5_halve 52 = .ok (.iload 5, 2) := by decide +kernel
theorem dX5_halve_54 : decode cX5_halve 54 = .ok (.iconst 1, 1) := by decide +kernel
theorem dX5_halve_55 : decode cX5_halve 55 = .ok (.iadd, 1) := by decide +kernel
theorem dX5_halve_56 : decode cX5_halve 56 = .ok (.istore_n 3, 1) := by decide +kernel
theorem dX5_halve_57 : decode cX5_halve 57 = .ok (.goto (-49), 3) := by decide +kernel
theorem dX5_halve_60 : decode cX5_halve 60 = .ok (.iload_n 3, 1) := by decide +kernel
theorem dX5_halve_61 : decode cX5_halve 61 = .ok (.ireturn, 1) := by decide +kernel
theorem dX5_stepBack_0 : decode cX5_stepBack 0 = .ok (.iload_n 2, 1) := by decide +kernel
theorem dX5_stepBack_1 : decode cX5_stepBack 1 = .ok (.istore 4, 2) := by decide +kernel
theorem dX5_stepBack_3 : decode cX5_stepBack 3 = .ok (.iload 4, 2) := by decide +kernel
theorem dX5_stepBack_5 : decode cX5_stepBack 5 = .ok (.ifCond .le 35, 3) := by decide +kernel
theorem dX5_stepBack_8 : decode cX5_stepBack 8 = .ok (.aload_n 0, 1) := by decide +kernel
theorem dX5_stepBack_9 : decode cX5_stepBack 9 = .ok (.dup, 1) := by decide +kernel
theorem dX5_stepBack_10 : decode cX5_stepBack 10 = .ok (.getfield 63, 3) := by decide +kernel
theorem dX5_stepBack_13 : decode cX5_stepBack 13 = .ok (.iconst 1, 1) := by decide +kernel
theorem dX5_stepBack_14 : decode cX5_stepBack 14 = .ok (.iadd, 1) := by decide +kernel
theorem dX5_stepBack_15 : decode cX5_stepBack 15 = .ok (.putfield 63, 3) := by decide +kernel
theorem dX5_stepBack_18 : decode cX5_stepBack 18 = .ok (.aload_n 1, 1) := by decide +kernel
theorem dX5_stepBack_19 : decode cX5_stepBack 19 = .ok (.iload 4, 2) := by decide +kernel
theorem dX5_stepBack_21 : decode cX5_stepBack 21 = .ok (.iconst 1, 1) := by decide +kernel
theorem dX5_stepBack_22 : decode cX5_stepBack 22 = .ok (.isub, 1) := by decide +kernel
theorem dX5_stepBack_23 : decode cX5_stepBack 23 = .ok (.iconst (-1), 1) := by decide +kernel
theorem dX5_stepBack_24 : decode cX5_stepBack 24 = .ok (.invokevirtual 37, 3) := by decide +kernel
theorem dX5_stepBack_27 : decode cX5_stepBack 27 = .ok (.iload_n 3, 1) := by decide +kernel
theorem dX5_stepBack_28 : decode cX5_stepBack 28 = .ok (.if_icmp .ge 6, 3) := by decide +kernel
theorem dX5_stepBack_31 : decode cX5_stepBack 31 = .ok (.goto 9, 3) := by decide +kernel
theorem dX5_stepBack_34 : decode cX5_stepBack 34 = .ok (.iinc 4 (-1), 3) := by decide +kernel
theorem dX5_stepBack_37 : decode cX5_stepBack 37 = .ok (.goto (-34), 3) := by decide +kernel
theorem dX5_stepBack_40 : decode cX5_stepBack 40 = .ok (.iload 4, 2) := by decide +kernel
theorem dX5_stepBack_42 : decode cX5_stepBack 42 = .ok (.ireturn, 1) := by decide +kernel
theorem dX5_answerAt_0 : decode cX5_answerAt 0 = .ok (.aload_n 1, 1) := by decide +kernel
theorem dX5_answerAt_1 : decode cX5_answerAt 1 = .ok (.iload_n 2, 1) := by decide +kernel
theorem dX5_answerAt_2 : decode cX5_answerAt 2 = .ok (.invokevirtual 41, 3) := by decide +kernel
theorem dX5_answerAt_5 : decode cX5_answerAt 5 = .ok (.astore 5, 2) := by decide +kernel
theorem dX5_answerAt_7 : decode cX5_answerAt 7 = .ok (.aload 5, 2) := by decide +kernel
theorem dX5_answerAt_9 : decode cX5_answerAt 9 = .ok (.iload_n 3, 1) := by decide +kernel
theorem dX5_answerAt_10 : decode cX5_answerAt 10 = .ok (.invokevirtual 116, 3) := by decide +kernel
theorem dX5_answerAt_13 : decode cX5_answerAt 13 = .ok (.istore 6, 2) := by decide +kernel
theorem dX5_answerAt_15 : decode cX5_answerAt 15 = .ok (.aload_n 0, 1) := by decide +kernel
theorem dX5_answerAt_16 : decode cX5_answerAt 16 = .ok (.dup, 1) := by decide +kernel
theorem dX5_answerAt_17 : decode cX5_answerAt 17 = .ok (.getfield 63, 3) := by decide +kernel
theorem dX5_answerAt_20 : decode cX5_answerAt 20 = .ok (.iload 6, 2) := by decide +kernel
theorem dX5_answerAt_22 : decode cX5_answerAt 22 = .ok (.iload_n 3, 1) := by decide +kernel
theorem dX5_answerAt_23 : decode cX5_answerAt 23 = .ok (.isub, 1) := by decide +kernel
theorem dX5_answerAt_24 : decode cX5_answerAt 24 = .ok (.iadd, 1) := by decide +kernel
theorem dX5_answerAt_25 : decode cX5_answerAt 25 = .ok (.putfield 63, 3) := by decide +kernel
theorem dX5_answerAt_28 : decode cX5_answerAt 28 = .ok (.aload_n 0, 1) := by decide +kernel
theorem dX5_answerAt_29 : decode cX5_answerAt 29 = .ok (.dup, 1) := by decide +kernel
theorem dX5_answerAt_30 : decode cX5_answerAt 30 = .ok (.getfield 63, 3) := by decide +kernel
theorem dX5_answerAt_33 : decode cX5_answerAt 33 = .ok (.aload 5, 2) := by decide +kernel
theorem dX5_answerAt_35 : decode cX5_answerAt 35 = .ok (.getfield 120, 3) := by decide +kernel
theorem dX5_answerAt_38 : decode cX5_answerAt 38 = .ok (.invokevirtual 33, 3) := by decide +kernel
theorem dX5_answerAt_41 : decode cX5_answerAt 41 = .ok (.iadd, 1) := by decide +kernel
theorem dX5_answerAt_42 : decode cX5_answerAt 42 = .ok (.putfield 63, 3) := by decide +kernel
theorem dX5_answerAt_45 : decode cX5_answerAt 45 = .ok (.aload 5, 2) := by decide +kernel
theorem dX5_answerAt_47 : decode cX5_answerAt 47 = .ok (.iload 4, 2) := by decide +kernel
theorem dX5_answerAt_49 : decode cX5_answerAt 49 = .ok (.aload 5, 2) := by decide +kernel
theorem dX5_answerAt_51 : decode cX5_answerAt 51 = .ok (.getfield 46, 3) := by decide +kernel
theorem dX5_answerAt_54 : decode cX5_answerAt 54 = .ok (.iload 6, 2) := by decide +kernel
theorem dX5_answerAt_56 : decode cX5_answerAt 56 = .ok (.sipush 10000, 3) := by decide +kernel
theorem dX5_answerAt_59 : decode cX5_answerAt 59 = .ok (.invokevirtual 37, 3) := by decide +kernel
theorem dX5_answerAt_62 : decode cX5_answerAt 62 = .ok (.invokevirtual 123, 3) := by decide +kernel
theorem dX5_answerAt_65 : decode cX5_answerAt 65 = .ok (.istore 7, 2) := by decide +kernel
theorem dX5_answerAt_67 : decode cX5_answerAt 67 = .ok (.aload_n 0, 1) := by decide +kernel
theorem dX5_answerAt_68 : decode cX5_answerAt 68 = .ok (.iload 7, 2) := by decide +kernel
theorem dX5_answerAt_70 : decode cX5_answerAt 70 = .ok (.sipush 10000, 3) := by decide +kernel
theorem dX5_answerAt_73 : decode cX5_answerAt 73 = .ok (.if_icmp .ge 8, 3) := by decide +kernel
theorem dX5_answerAt_76 : decode cX5_answerAt 76 = .ok (.iload 7, 2) := by decide +kernel
theorem dX5_answerAt_78 : decode cX5_answerAt 78 = .ok (.goto 4, 3) := by decide +kernel
theorem dX5_answerAt_81 : decode cX5_answerAt 81 = .ok (.iconst (-1), 1) := by decide +kernel
theorem dX5_answerAt_82 : decode cX5_answerAt 82 = .ok (.putfield 100, 3) := by decide +kernel
theorem dX5_answerAt_85 : decode cX5_answerAt 85 = .ok (.aload_n 0, 1) := by decide +kernel
theorem dX5_answerAt_86 : decode cX5_answerAt 86 = .ok (.getfield 100, 3) := by decide +kernel
theorem dX5_answerAt_89 : decode cX5_answerAt 89 = .ok (.iconst (-1), 1) := by decide +kernel
theorem dX5_answerAt_90 : decode cX5_answerAt 90 = .ok (.if_icmp .eq 35, 3) := by decide +kernel
theorem dX5_answerAt_93 : decode cX5_answerAt 93 = .ok (.aload_n 0, 1) := by decide +kernel
theorem dX5_answerAt_94 : decode cX5_answerAt 94 = .ok (.getfield 103, 3) := by decide +kernel
theorem dX5_answerAt_97 : decode cX5_answerAt 97 = .ok (.iconst (-1), 1) := by decide +kernel
theorem dX5_answerAt_98 : decode cX5_answerAt 98 = .ok (.if_icmp .eq 14, 3) := by decide +kernel
theorem dX5_answerAt_101 : decode cX5_answerAt 101 = .ok (.aload_n 0, 1) := by decide +kernel
theorem dX5_answerAt_102 : decode cX5_answerAt 102 = .ok (.getfield 100, 3) := by decide +kernel
theorem dX5_answerAt_105 : decode cX5_answerAt 105 = .ok (.aload_n 0, 1) := by decide +kernel
theorem dX5_answerAt_106 : decode cX5_answerAt 106 = .ok (.getfield 103, 3) := by decide +kernel
theorem dX5_answerAt_109 : decode cX5_answerAt 109 = .ok (.if_icmp .ge 16, 3) := by decide +kernel
theorem dX5_answerAt_112 : decode cX5_answerAt 112 = .ok (.aload_n 0, 1) := by decide +kernel
theorem dX5_answerAt_113 : decode cX5_answerAt 113 = .ok (.aload_n 0, 1) := by decide +kernel
theorem dX5_answerAt_114 : decode cX5_answerAt 114 = .ok (.getfield 100, 3) := by decide +kernel
theorem dX5_answerAt_117 : decode cX5_answerAt 117 = .ok (.putfield 103, 3) := by decide +kernel
theorem dX5_answerAt_120 : decode cX5_answerAt 120 = .ok (.aload_n 0, 1) := by decide +kernel
theorem dX5_answerAt_121 : decode cX5_answerAt 121 = .ok (.iload_n 2, 1) := by decide +kernel
theorem dX5_answerAt_122 : decode cX5_answerAt 122 = .ok (.putfield 106, 3) := by decide +kernel
theorem dX5_answerAt_125 : decode cX5_answerAt 125 = .ok (.return_, 1) := by decide +kernel
end
section
theorem dX6_init_0 : decode cX6_init 0 = .ok (.aload_n 0, 1) := by decide +kernel
theorem dX6_init_1 : decode cX6_init 1 = .ok (.invokespecial 1, 3) := by decide +kernel
theorem dX6_init_4 : decode cX6_init 4 = .ok (.aload_n 0, 1) := by decide +kernel
theorem dX6_init_5 : decode cX6_init 5 = .ok (.new 7, 3) := by decide +kernel
theorem dX6_init_8 : decode cX6_init 8 = .ok (.dup, 1) := by decide +kernel
theorem dX6_init_9 : decode cX6_init 9 = .ok (.invokespecial 9, 3) := by decide +kernel
theorem dX6_init_12 : decode cX6_init 12 = .ok (.putfield 10, 3) := by decide +kernel
theorem dX6_init_15 : decode cX6_init 15 = .ok (.aload_n 0, 1) := by decide +kernel
theorem dX6_init_16 : decode cX6_init 16 = .ok (.new 16, 3) := by decide +kernel
theorem dX6_init_19 : decode cX6_init 19 = .ok (.dup, 1) := by decide +kernel
theorem dX6_init_20 : decode cX6_init 20 = .ok (.invokespecial 18, 3) := by decide +kernel
theorem dX6_init_23 : decode cX6_init 23 = .ok (.putfield 19, 3) := by decide +kernel
theorem dX6_init_26 : decode cX6_init 26 = .ok (.aload_n 0, 1) := by decide +kernel
theorem dX6_init_27 : decode cX6_init 27 = .ok (.new 23, 3) := by decide +kernel
theorem dX6_init_30 : decode cX6_init 30 = .ok (.dup, 1) := by decide +kernel
theorem dX6_init_31 : decode cX6_init 31 = .ok (.invokespecial 25, 3) := by decide +kernel
theorem dX6_init_34 : decode cX6_init 34 = .ok (.putfield 26, 3) := by decide +kernel
theorem dX6_init_37 : decode cX6_init 37 = .ok (.return_, 1) := by decide +kernel
theorem dX6_addNode_0 : decode cX6_addNode 0 = .ok (.aload_n 0, 1) := by decide +kernel
theorem dX6_addNode_1 : decode cX6_addNode 1 = .ok (.iload_n 1, 1) := by decide +kernel
theorem dX6_addNode_2 : decode cX6_addNode 2 = .ok (.invokevirtual 30, 3) := by decide +kernel
theorem dX6_addNode_5 : decode cX6_addNode 5 = .ok (.aload_n 0, 1) := by decide +kernel
theorem dX6_addNode_6 : decode cX6_addNode 6 = .ok (.iload_n 2, 1) := by decide +kernel
theorem dX6_addNode_7 : decode cX6_addNode 7 = .ok (.iconst 1, 1) := by decide +kernel
theorem dX6_addNode_8 : decode cX6_addNode 8 = .ok (.if_icmp .eq 8, 3) := by decide +kernel
theorem dX6_addNode_11 : decode cX6_addNode 11 = .ok (.iload_n 2, 1) := by decide +kernel
theorem dX6_addNode_12 : decode cX6_addNode 12 = .ok (.iconst 2, 1) := by decide +kernel
theorem dX6_addNode_13 : decode cX6_addNode 13 = .ok (.if_icmp .ne 7, 3) := by decide +kernel
theorem dX6_addNode_16 : decode cX6_addNode 16 = .ok (.iconst 1, 1) := by decide +kernel
theorem dX6_addNode_17 : decode cX6_addNode 17 = .ok (.goto 4, 3) := by decide +kernel
theorem dX6_addNode_20 : decode cX6_addNode 20 = .ok (.iconst 0, 1) := by decide +kernel
theorem dX6_addNode_21 : decode cX6_addNode 21 = .ok (.invokevirtual 34, 3) := by decide +kernel
theorem dX6_addNode_24 : decode cX6_addNode 24 = .ok (.aload_n 0, 1) := by decide +kernel
theorem dX6_addNode_25 : decode cX6_addNode 25 = .ok (.getfield 10, 3) := by decide +kernel
theorem dX6_addNode_28 : decode cX6_addNode 28 = .ok (.getfield 38, 3) := by decide +kernel
theorem dX6_addNode_31 : decode cX6_addNode 31 = .ok (.bipush 15, 2) := by decide +kernel
theorem dX6_addNode_33 : decode cX6_addNode 33 = .ok (.if_icmp .eq 19, 3) := by decide +kernel
theorem dX6_addNode_36 : decode cX6_addNode 36 = .ok (.aload_n 0, 1) := by decide +kernel
theorem dX6_addNode_37 : decode cX6_addNode 37 = .ok (.getfield 10, 3) := by decide +kernel
theorem dX6_addNode_40 : decode cX6_addNode 40 = .ok (.iload_n 1, 1) := by decide +kernel
theorem dX6_addNode_41 : decode cX6_addNode 41 = .ok (.invokevirtual 42, 3) := by decide +kernel
theorem dX6_addNode_44 : decode cX6_addNode 44 = .ok (.iload_n 2, 1) := by decide +kernel
theorem dX6_addNode_45 : decode cX6_addNode 45 = .ok (.invokevirtual 46, 3) := by decide +kernel
theorem dX6_addNode_48 : decode cX6_addNode 48 = .ok (.iconst (-1), 1) := by decide +kernel
theorem dX6_addNode_49 : decode cX6_addNode 49 = .ok (.if_icmp .eq 13, 3) := by decide +kernel
theorem dX6_addNode_52 : decode cX6_addNode 52 = .ok (.new 52, 3) := by decide +kernel
theorem dX6_addNode_55 : decode cX6_addNode 55 = .ok (.dup, 1) := by decide +kernel
theorem dX6_addNode_56 : decode cX6_addNode 56 = .ok (.ldc 54, 2) := by decide +kernel
theorem dX6_addNode_58 : decode cX6_addNode 58 = .ok (.invokespecial 56, 3) := by decide +kernel
theorem dX6_addNode_61 : decode cX6_addNode 61 = .ok (.athrow, 1) := by decide +kernel
theorem dX6_addNode_62 : decode cX6_addNode 62 = .ok (.aload_n 0, 1) := by decide +kernel
theorem dX6_addNode_63 : decode cX6_addNode 63 = .ok (.getfield 26, 3) := by decide +kernel
theorem dX6_addNode_66 : decode cX6_addNode 66 = .ok (.aload_n 0, 1) := by decide +kernel
theorem dX6_addNode_67 : decode cX6_addNode 67 = .ok (.getfield 10, 3) := by decide +kernel
theorem dX6_addNode_70 : decode cX6_addNode 70 = .ok (.invokevirtual 59, 3) := by decide +kernel
theorem dX6_addNode_73 : decode cX6_addNode 73 = .ok (.aload_n 0, 1) := by decide +kernel
theorem dX6_addNode_74 : decode cX6_addNode 74 = .ok (.getfield 10, 3) := by decide +kernel
theorem dX6_addNode_77 : decode cX6_addNode 77 = .ok (.iload_n 1, 1) := by decide +kernel
theorem dX6_addNode_78 : decode cX6_addNode 78 = .ok (.iload_n 2, 1) := by decide +kernel
theorem dX6_addNode_79 : decode cX6_addNode 79 = .ok (.invokevirtual 63, 3) := by decide +kernel
theorem dX6_addNode_82 : decode cX6_addNode 82 = .ok (.ireturn, 1) := by decide +kernel
theorem dX6_add_0 : decode cX6_add 0 = .ok (.aload_n 0, 1) := by decide +kernel
theorem dX6_add_1 : decode cX6_add 1 = .ok (.iload_n 1, 1) := by decide +kernel
theorem dX6_add_2 : decode cX6_add 2 = .ok (.invokevirtual 30, 3) := by decide +kernel
theorem dX6_add_5 : decode cX6_add 5 = .ok (.aload_n 0, 1) := by decide +kernel
theorem dX6_add_6 : decode cX6_add 6 = .ok (.iload_n 2, 1) := by decide +kernel
theorem dX6_add_7 : decode cX6_add 7 = .ok (.invokevirtual 67, 3) := by decide +kernel
theorem dX6_add_10 : decode cX6_add 10 = .ok (.aload_n 0, 1) := by decide +kernel
theorem dX6_add_11 : decode cX6_add 11 = .ok (.getfield 10, 3) := by decide +kernel
theorem dX6_add_14 : decode cX6_add 14 = .ok (.iload_n 1, 1) := by decide +kernel
theorem dX6_add_15 : decode cX6_add 15 = .ok (.invokevirtual 42, 3) := by decide +kernel
theorem dX6_add_18 : decode cX6_add 18 = .ok (.astore_n 3, 1) := by decide +kernel
theorem dX6_add_19 : decode cX6_add 19 = .ok (.aload_n 3, 1) := by decide +kernel
theorem dX6_add_20 : decode cX6_add 20 = .ok (.iload_n 2, 1) := by decide +kernel
theorem dX6_add_21 : decode cX6_add 21 = .ok (.invokevirtual 70, 3) := by decide +kernel
theorem dX6_add_24 : decode cX6_add 24 = .ok (.ifCond .ne 20, 3) := by decide +kernel
theorem dX6_add_27 : decode cX6_add 27 = .ok (.aload_n 3, 1) := by decide +kernel
theorem dX6_add_28 : decode cX6_add 28 = .ok (.invokevirtual 74, 3) := by decide +kernel
theorem dX6_add_31 : decode cX6_add 31 = .ok (.ifCond .eq 13, 3) := by decide +kernel
theorem dX6_add_34 : decode cX6_add 34 = .ok (.new 52, 3) := by decide +kernel
theorem dX6_add_37 : decode cX6_add 37 = .ok (.dup, 1) := by decide +kernel
theorem dX6_add_38 : decode cX6_add 38 = .ok (.ldc 78, 2) := by decide +kernel
theorem dX6_add_40 : decode cX6_add 40 = .ok (.invokespecial 56, 3) := by decide +kernel
theorem dX6_add_43 : decode cX6_add 43 = .ok (.athrow, 1) := by decide +kernel
theorem dX6_add_44 : decode cX6_add 44 = .ok (.aload_n 0, 1) := by decide +kernel
theorem dX6_add_45 : decode cX6_add 45 = .ok (.getfield 26, 3) := by decide +kernel
theorem dX6_add_48 : decode cX6_add 48 = .ok (.aload_n 0, 1) := by decide +kernel
theorem dX6_add_49 : decode cX6_add 49 = .ok (.getfield 10, 3) := by decide +kernel
theorem dX6_add_52 : decode cX6_add 52 = .ok (.invokevirtual 59, 3) := by decide +kernel
theorem dX6_add_55 : decode cX6_add 55 = .ok (.aload_n 0, 1) := by decide +kernel
theorem dX6_add_56 : decode cX6_add 56 = .ok (.getfield 10, 3) := by decide +kernel
theorem dX6_add_59 : decode cX6_add 59 = .ok (.iload_n 1, 1) := by decide +kernel
theorem dX6_add_60 : decode cX6_add 60 = .ok (.iload_n 2, 1) := by decide +kernel
theorem dX6_add_61 : decode cX6_add 61 = .ok (.invokevirtual 80, 3) := by decide +kernel
theorem dX6_add_64 : decode cX6_add 64 = .ok (.ireturn, 1) := by decide +kernel
theorem dX6_remove_0 : decode cX6_remove 0 = .ok (.aload_n 0, 1) := by decide +kernel
theorem dX6_remove_1 : decode cX6_remove 1 = .ok (.iload_n 1, 1) := by decide +kernel
theorem dX6_remove_2 : decode cX6_remove 2 = .ok (.invokevirtual 30, 3) := by decide +kernel
theorem dX6_remove_5 : decode cX6_remove 5 = .ok (.aload_n 0, 1) := by decide +kernel
theorem dX6_remove_6 : decode cX6_remove 6 = .ok (.iload_n 2, 1) := by decide +kernel
theorem dX6_remove_7 : decode cX6_remove 7 = .ok (.invokevirtual 67, 3) := by decide +kernel
theorem dX6_remove_10 : decode cX6_remove 10 = .ok (.aload_n 0, 1) := by decide +kernel
theorem dX6_remove_11 : decode cX6_remove 11 = .ok (.getfield 26, 3) := by decide +kernel
theorem dX6_remove_14 : decode cX6_remove 14 = .ok (.aload_n 0, 1) := by decide +kernel
theorem dX6_remove_15 : decode cX6_remove 15 = .ok (.getfield 10, 3) := by decide +kernel
theorem dX6_remove_18 : decode cX6_remove 18 = .ok (.invokevirtual 59, 3) := by decide +kernel
theorem dX6_remove_21 : decode cX6_remove 21 = .ok (.aload_n 0, 1) := by decide +kernel
theorem dX6_remove_22 : decode cX6_remove 22 = .ok (.getfield 10, 3) := by decide +kernel
theorem dX6_remove_25 : decode cX6_remove 25 = .ok (.iload_n 1, 1) := by decide +kernel
theorem dX6_remove_26 : decode cX6_remove 26 = .ok (.iload_n 2, 1) := by decide +kernel
theorem dX6_remove_27 : decode cX6_remove 27 = .ok (.invokevirtual 84, 3) := by decide +kernel
theorem dX6_remove_30 : decode cX6_remove 30 = .ok (.ireturn, 1) := by decide +kernel
theorem dX6_addSeries_0 : decode cX6_addSeries 0 = .ok (.aload_n 0, 1) := by decide +kernel
theorem dX6_addSeries_1 : decode cX6_addSeries 1 = .ok (.iload_n 1, 1) := by decide +kernel
theorem dX6_addSeries_2 : decode cX6_addSeries 2 = .ok (.invokevirtual 30, 3) := by decide +kernel
theorem dX6_addSeries_5 : decode cX6_addSeries 5 = .ok (.aload_n 0, 1) := by decide +kernel
theorem dX6_addSeries_6 : decode cX6_addSeries 6 = .ok (.iload_n 2, 1) := by decide +kernel
theorem dX6_addSeries_7 : decode cX6_addSeries 7 = .ok (.invokevirtual 67, 3) := by decide +kernel
theorem dX6_addSeries_10 : decode cX6_addSeries 10 = .ok (.aload_n 0, 1) := by decide +kernel
theorem dX6_addSeries_11 : decode cX6_addSeries 11 = .ok (.iload_n 3, 1) := by decide +kernel
theorem dX6_addSeries_12 : decode cX6_addSeries 12 = .ok (.iconst 1, 1) := by decide +kernel
theorem dX6_addSeries_13 : decode cX6_addSeries 13 = .ok (.if_icmp .lt 14, 3) := by decide +kernel
theorem dX6_addSeries_16 : decode cX6_addSeries 16 = .ok (.iload_n 3, 1) := by decide +kernel
theorem dX6_addSeries_17 : decode cX6_addSeries 17 = .ok (.sipush 999, 3) := by decide +kernel
theorem dX6_addSeries_20 : decode cX6_addSeries 20 = .ok (.if_icmp .gt 7, 3) := by decide +kernel
theorem dX6_addSeries_23 : decode cX6_addSeries 23 = .ok (.iconst 1, 1) := by decide +kernel
theorem dX6_addSeries_24 : decode cX6_addSeries 24 = .ok (.goto 4, 3) := by decide +kernel
theorem dX6_addSeries_27 : decode cX6_addSeries 27 = .ok (.iconst 0, 1) := by decide +kernel
theorem dX6_addSeries_28 : decode cX6_addSeries 28 = .ok (.invokevirtual 34, 3) := by decide +kernel
theorem dX6_addSeries_31 : decode cX6_addSeries 31 = .ok (.aload_n 0, 1) := by decide +kernel
theorem dX6_addSeries_32 : decode cX6_addSeries 32 = .ok (.iload 4, 2) := by decide +kernel
theorem dX6_addSeries_34 : decode cX6_addSeries 34 = .ok (.iconst 1, 1) := by decide +kernel
theorem dX6_addSeries_35 : decode cX6_addSeries 35 = .ok (.if_icmp .lt 14, 3) := by decide +kernel
theorem dX6_addSeries_38 : decode cX6_addSeries 38 = .ok (.iload 4, 2) := by decide +kernel
theorem dX6_addSeries_40 : decode cX6_addSeries 40 = .ok (.bipush 24, 2) := by decide +kernel
theorem dX6_addSeries_42 : decode cX6_addSeries 42 = .ok (.if_icmp .gt 7, 3) := by decide +kernel
theorem dX6_addSeries_45 : decode cX6_addSeries 45 = .ok (.iconst 1, 1) := by decide +kernel
theorem dX6_addSeries_46 : decode cX6_addSeries 46 = .ok (.goto 4, 3) := by decide +kernel
theorem dX6_addSeries_49 : decode cX6_addSeries 49 = .ok (.iconst 0, 1) := by decide +kernel
theorem dX6_addSeries_50 : decode cX6_addSeries 50 = .ok (.invokevirtual 34, 3) := by decide +kernel
theorem dX6_addSeries_53 : decode cX6_addSeries 53 = .ok (.aload_n 0, 1) := by decide +kernel
theorem dX6_addSeries_54 : decode cX6_addSeries 54 = .ok (.getfield 26, 3) := by decide +kernel
theorem dX6_addSeries_57 : decode cX6_addSeries 57 = .ok (.aload_n 0, 1) := by decide +kernel
theorem dX6_addSeries_58 : decode cX6_addSeries 58 = .ok (.getfield 10, 3) := by decide +kernel
theorem dX6_addSeries_61 : decode cX6_addSeries 61 = .ok (.invokevirtual 59, 3) := by decide +kernel
theorem dX6_addSeries_64 : decode cX6_addSeries 64 = .ok (.iload_n 2, 1) := by decide +kernel
theorem dX6_addSeries_65 : decode cX6_addSeries 65 = .ok (.istore 5, 2) := by decide +kernel
theorem dX6_addSeries_67 : decode cX6_addSeries 67 = .ok (.iconst 0, 1) := by decide +kernel
theorem dX6_addSeries_68 : decode cX6_addSeries 68 = .ok (.istore 6, 2) := by decide +kernel
theorem dX6_addSeries_70 : decode cX6_addSeries 70 = .ok (.iconst 0, 1) := by decide +kernel
theorem dX6_addSeries_71 : decode cX6_addSeries 71 = .ok (.istore 7, 2) := by decide +kernel
theorem dX6_addSeries_73 : decode cX6_addSeries 73 = .ok (.iload 7, 2) := by decide +kernel
theorem dX6_addSeries_75 : decode cX6_addSeries 75 = .ok (.iload 4, 2) := by decide +kernel
theorem dX6_addSeries_77 : decode cX6_addSeries 77 = .ok (.if_icmp .ge 53, 3) := by decide +kernel
theorem dX6_addSeries_80 : decode cX6_addSeries 80 = .ok (.iload 5, 2) := by decide +kernel
theorem dX6_addSeries_82 : decode cX6_addSeries 82 = .ok (.sipush 10000, 3) := by decide +kernel
theorem dX6_addSeries_85 : decode cX6_addSeries 85 = .ok (.if_icmp .ge 45, 3) := by decide +kernel
theorem dX6_addSeries_88 : decode cX6_addSeries 88 = .ok (.aload_n 0, 1) := by decide +kernel
theorem dX6_addSeries_89 : decode cX6_addSeries 89 = .ok (.getfield 10, 3) := by decide +kernel
theorem dX6_addSeries_92 : decode cX6_addSeries 92 = .ok (.iload_n 1, 1) := by decide +kernel
theorem dX6_addSeries_93 : decode cX6_addSeries 93 = .ok (.invokevirtual 42, 3) := by decide +kernel
theorem dX6_addSeries_96 : decode cX6_addSeries 96 = .ok (.invokevirtual 74, 3) := by decide +kernel
theorem dX6_addSeries_99 : decode cX6_addSeries 99 = .ok (.ifCond .ne 31, 3) := by decide +kernel
theorem dX6_addSeries_102 : decode cX6_addSeries 102 = .ok (.aload_n 0, 1) := by decide +kernel
theorem dX6_addSeries_103 : decode cX6_addSeries 103 = .ok (.getfield 10, 3) := by decide +kernel
theorem dX6_addSeries_106 : decode cX6_addSeries 106 = .ok (.iload_n 1, 1) := by decide +kernel
theorem dX6_addSeries_107 : decode cX6_addSeries 107 = .ok (.iload 5, 2) := by decide +kernel
theorem dX6_addSeries_109 : decode cX6_addSeries 109 = .ok (.invokevirtual 80, 3) := by decide +kernel
theorem dX6_addSeries_112 : decode cX6_addSeries 112 = .ok (.ifCond .eq 6, 3) := by decide +kernel
theorem dX6_addSeries_115 : decode cX6_addSeries 115 = .ok (.iinc 6 1, 3) := by decide +kernel
theorem dX6_addSeries_118 : decode cX6_addSeries 118 = .ok (.iload 5, 2) := by decide +kernel
theorem dX6_addSeries_120 : decode cX6_addSeries 120 = .ok (.iload_n 3, 1) := by decide +kernel
theorem dX6_addSeries_121 : decode cX6_addSeries 121 = .ok (.iadd, 1) := by decide +kernel
theorem dX6_addSeries_122 : decode cX6_addSeries 122 = .ok (.istore 5, 2) := by decide +kernel
theorem dX6_addSeries_124 : decode cX6_addSeries 124 = .ok (.iinc 7 1, 3) := by decide +kernel
theorem dX6_addSeries_127 : decode cX6_addSeries 127 = .ok (.goto (-54), 3) := by decide +kernel
theorem dX6_addSeries_130 : decode cX6_addSeries 130 = .ok (.iload 6, 2) := by decide +kernel
theorem dX6_addSeries_132 : decode cX6_addSeries 132 = .ok (.ireturn, 1) := by decide +kernel
theorem dX6_setSizes_0 : decode cX6_setSizes 0 = .ok (.aload_n 0, 1) := by decide +kernel
theorem dX6_setSizes_1 : decode cX6_setSizes 1 = .ok (.iload_n 1, 1) := by decide +kernel
theorem dX6_setSizes_2 : decode cX6_setSizes 2 = .ok (.iconst 1, 1) := by decide +kernel
theorem dX6_setSizes_3 : decode cX6_setSizes 3 = .ok (.if_icmp .lt 13, 3) := by decide +kernel
theorem dX6_setSizes_6 : decode cX6_setSizes 6 = .ok (.iload_n 1, 1) := by decide +kernel
theorem dX6_setSizes_7 : decode cX6_setSizes 7 = .ok (.bipush 8, 2) := by decide +kernel
theorem dX6_setSizes_9 : decode cX6_setSizes 9 = .ok (.if_icmp .gt 7, 3) := by decide +kernel
theorem dX6_setSizes_12 : decode cX6_setSizes 12 = .ok (.iconst 1, 1) := by decide +kernel
theorem dX6_setSizes_13 : decode cX6_setSizes 13 = .ok (.goto 4, 3) := by decide +kernel
theorem dX6_setSizes_16 : decode cX6_setSizes 16 = .ok (.iconst 0, 1) := by decide +kernel
theorem dX6_setSizes_17 : decode cX6_setSizes 17 = .ok (.invokevirtual 34, 3) := by decide +kernel
theorem dX6_setSizes_20 : decode cX6_setSizes 20 = .ok (.aload_n 0, 1) := by decide +kernel
theorem dX6_setSizes_21 : decode cX6_setSizes 21 = .ok (.iload_n 2, 1) := by decide +kernel
theorem dX6_setSizes_22 : decode cX6_setSizes 22 = .ok (.iconst 2, 1) := by decide +kernel
theorem dX6_setSizes_23 : decode cX6_setSizes 23 = .ok (.if_icmp .lt 12, 3) := by decide +kernel
theorem dX6_setSizes_26 : decode cX6_setSizes 26 = .ok (.iload_n 2, 1) := by decide +kernel
theorem dX6_setSizes_27 : decode cX6_setSizes 27 = .ok (.iconst 5, 1) := by decide +kernel
theorem dX6_setSizes_28 : decode cX6_setSizes 28 = .ok (.if_icmp .gt 7, 3) := by decide +kernel
theorem dX6_setSizes_31 : decode cX6_setSizes 31 = .ok (.iconst 1, 1) := by decide +kernel
theorem dX6_setSizes_32 : decode cX6_setSizes 32 = .ok (.goto 4, 3) := by decide +kernel
theorem dX6_setSizes_35 : decode cX6_setSizes 35 = .ok (.iconst 0, 1) := by decide +kernel
theorem dX6_setSizes_36 : decode cX6_setSizes 36 = .ok (.invokevirtual 34, 3) := by decide +kernel
theorem dX6_setSizes_39 : decode cX6_setSizes 39 = .ok (.aload_n 0, 1) := by decide +kernel
theorem dX6_setSizes_40 : decode cX6_setSizes 40 = .ok (.getfield 26, 3) := by decide +kernel
theorem dX6_setSizes_43 : decode cX6_setSizes 43 = .ok (.aload_n 0, 1) := by decide +kernel
theorem dX6_setSizes_44 : decode cX6_setSizes 44 = .ok (.getfield 10, 3) := by decide +kernel
theorem dX6_setSizes_47 : decode cX6_setSizes 47 = .ok (.invokevirtual 59, 3) := by decide +kernel
theorem dX6_setSizes_50 : decode cX6_setSizes 50 = .ok (.bipush 10, 2) := by decide +kernel
theorem dX6_setSizes_52 : decode cX6_setSizes 52 = .ok (.aload_n 0, 1) := by decide +kernel
theorem dX6_setSizes_53 : decode cX6_setSizes 53 = .ok (.getfield 10, 3) := by decide +kernel
theorem dX6_setSizes_56 : decode cX6_setSizes 56 = .ok (.getfield 87, 3) := by decide +kernel
theorem dX6_setSizes_59 : decode cX6_setSizes 59 = .ok (.imul, 1) := by decide +kernel
theorem dX6_setSizes_60 : decode cX6_setSizes 60 = .ok (.aload_n 0, 1) := by decide +kernel
theorem dX6_setSizes_61 : decode cX6_setSizes 61 = .ok (.getfield 10, 3) := by decide +kernel
theorem dX6_setSizes_64 : decode cX6_setSizes 64 = .ok (.getfield 90, 3) := by decide +kernel
theorem dX6_setSizes_67 : decode cX6_setSizes 67 = .ok (.iadd, 1) := by decide +kernel
theorem dX6_setSizes_68 : decode cX6_setSizes 68 = .ok (.istore_n 3, 1) := by decide +kernel
theorem dX6_setSizes_69 : decode cX6_setSizes 69 = .ok (.aload_n 0, 1) := by decide +kernel
theorem dX6_setSizes_70 : decode cX6_setSizes 70 = .ok (.getfield 10, 3) := by decide +kernel
theorem dX6_setSizes_73 : decode cX6_setSizes 73 = .ok (.iload_n 1, 1) := by decide +kernel
theorem dX6_setSizes_74 : decode cX6_setSizes 74 = .ok (.putfield 87, 3) := by decide +kernel
theorem dX6_setSizes_77 : decode cX6_setSizes 77 = .ok (.aload_n 0, 1) := by decide +kernel
theorem dX6_setSizes_78 : decode cX6_setSizes 78 = .ok (.getfield 10, 3) := by decide +kernel
theorem dX6_setSizes_81 : decode cX6_setSizes 81 = .ok (.iload_n 2, 1) := by decide +kernel
theorem dX6_setSizes_82 : decode cX6_setSizes 82 = .ok (.putfield 90, 3) := by decide +kernel
theorem dX6_setSizes_85 : decode cX6_setSizes 85 = .ok (.iload_n 3, 1) := by decide +kernel
theorem dX6_setSizes_86 : decode cX6_setSizes 86 = .ok (.ireturn, 1) := by decide +kernel
theorem dX6_rebuild_0 : decode cX6_rebuild 0 = .ok (.aload_n 0, 1) := by decide +kernel
theorem dX6_rebuild_1 : decode cX6_rebuild 1 = .ok (.iload_n 1, 1) := by decide +kernel
theorem dX6_rebuild_2 : decode cX6_rebuild 2 = .ok (.invokevirtual 30, 3) := by decide +kernel
theorem dX6_rebuild_5 : decode cX6_rebuild 5 = .ok (.aload_n 0, 1) := by decide +kernel
theorem dX6_rebuild_6 : decode cX6_rebuild 6 = .ok (.getfield 26, 3) := by decide +kernel
theorem dX6_rebuild_9 : decode cX6_rebuild 9 = .ok (.aload_n 0, 1) := by decide +kernel
theorem dX6_rebuild_10 : decode cX6_rebuild 10 = .ok (.getfield 10, 3) := by decide +kernel
theorem dX6_rebuild_13 : decode cX6_rebuild 13 = .ok (.invokevirtual 59, 3) := by decide +kernel
theorem dX6_rebuild_16 : decode cX6_rebuild 16 = .ok (.aload_n 0, 1) := by decide +kernel
theorem dX6_rebuild_17 : decode cX6_rebuild 17 = .ok (.getfield 10, 3) := by decide +kernel
theorem dX6_rebuild_20 : decode cX6_rebuild 20 = .ok (.iload_n 1, 1) := by decide +kernel
theorem dX6_rebuild_21 : decode cX6_rebuild 21 = .ok (.invokevirtual 93, 3) := by decide +kernel
theorem dX6_rebuild_24 : decode cX6_rebuild 24 = .ok (.ireturn, 1) := by decide +kernel
theorem dX6_rebuildAll_0 : decode cX6_rebuildAll 0 = .ok (.aload_n 0, 1) := by decide +kernel
theorem dX6_rebuildAll_1 : decode cX6_rebuildAll 1 = .ok (.getfield 26, 3) := by decide +kernel
theorem dX6_rebuildAll_4 : decode cX6_rebuildAll 4 = .ok (.aload_n 0, 1) := by decide +kernel
theorem dX6_rebuildAll_5 : decode cX6_rebuildAll 5 = .ok (.getfield 10, 3) := by decide +kernel
theorem dX6_rebuildAll_8 : decode cX6_rebuildAll 8 = .ok (.invokevirtual 59, 3) := by decide +kernel
theorem dX6_rebuildAll_11 : decode cX6_rebuildAll 11 = .ok (.aload_n 0, 1) := by decide +kernel
theorem dX6_rebuildAll_12 : decode cX6_rebuildAll 12 = .ok (.getfield 10, 3) := by decide +kernel
theorem dX6_rebuildAll_15 : decode cX6_rebuildAll 15 = .ok (.invokevirtual 96, 3) := by decide +kernel
theorem dX6_rebuildAll_18 : decode cX6_rebuildAll 18 = .ok (.aload_n 0, 1) := by decide +kernel
theorem dX6_rebuildAll_19 : decode cX6_rebuildAll 19 = .ok (.getfield 10, 3) := by decide +kernel
theorem dX6_rebuildAll_22 : decode cX6_rebuildAll 22 = .ok (.invokevirtual 99, 3) := by decide +kernel
theorem dX6_rebuildAll_25 : decode cX6_rebuildAll 25 = .ok (.ireturn, 1) := by decide +kernel
theorem dX6_search_0 : decode cX6_search 0 = .ok (.aload_n 0, 1) := by decide +kernel
theorem dX6_search_1 : decode cX6_search 1 = .ok (.iload_n 1, 1) := by decide +kernel
theorem dX6_search_2 : decode cX6_search 2 = .ok (.iload_n 2, 1) := by decide +kernel
theorem dX6_search_3 : decode cX6_search 3 = .ok (.invokevirtual 103, 3) := by decide +kernel
theorem dX6_search_6 : decode cX6_search 6 = .ok (.astore_n 3, 1) := by decide +kernel
theorem dX6_search_7 : decode cX6_search 7 = .ok (.aload_n 0, 1) := by decide +kernel
theorem dX6_search_8 : decode cX6_search 8 = .ok (.getfield 26, 3) := by decide +kernel
theorem dX6_search_11 : decode cX6_search 11 = .ok (.aload_n 0, 1) := by decide +kernel
theorem dX6_search_12 : decode cX6_search 12 = .ok (.getfield 10, 3) := by decide +kernel
theorem dX6_search_15 : decode cX6_search 15 = .ok (.invokevirtual 59, 3) := by decide +kernel
theorem dX6_search_18 : decode cX6_search 18 = .ok (.aload_n 0, 1) := by decide +kernel
theorem dX6_search_19 : decode cX6_search 19 = .ok (.getfield 10, 3) := by decide +kernel
theorem dX6_search_22 : decode cX6_search 22 = .ok (.dup, 1) := by decide +kernel
theorem dX6_search_23 : decode cX6_search 23 = .ok (.getfield 107, 3) := by decide +kernel
theorem dX6_search_26 : decode cX6_search 26 = .ok (.iconst 1, 1) := by decide +kernel
theorem dX6_search_27 : decode cX6_search 27 = .ok (.iadd, 1) := by decide +kernel
theorem dX6_search_28 : decode cX6_search 28 = .ok (.putfield 107, 3) := by decide +kernel
theorem dX6_search_31 : decode cX6_search 31 = .ok (.aload_n 0, 1) := by decide +kernel
theorem dX6_search_32 : decode cX6_search 32 = .ok (.getfield 10, 3) := by decide +kernel
theorem dX6_search_35 : decode cX6_search 35 = .ok (.dup, 1) := by decide +kernel
theorem dX6_search_36 : decode cX6_search 36 = .ok (.getfield 110, 3) := by decide +kernel
theorem dX6_search_39 : decode cX6_search 39 = .ok (.aload_n 3, 1) := by decide +kernel
theorem dX6_search_40 : decode cX6_search 40 = .ok (.getfield 113, 3) := by decide +kernel
theorem dX6_search_43 : decode cX6_search 43 = .ok (.iadd, 1) := by decide +kernel
theorem dX6_search_44 : decode cX6_search 44 = .ok (.putfield 110, 3) := by decide +kernel
theorem dX6_search_47 : decode cX6_search 47 = .ok (.aload_n 3, 1) := by decide +kernel
theorem dX6_search_48 : decode cX6_search 48 = .ok (.getfield 116, 3) := by decide +kernel
theorem dX6_search_51 : decode cX6_search 51 = .ok (.ireturn, 1) := by decide +kernel
theorem dX6_probes_0 : decode cX6_probes 0 = .ok (.aload_n 0, 1) := by decide +kernel
theorem dX6_probes_1 : decode cX6_probes 1 = .ok (.iload_n 1, 1) := by decide +kernel
theorem dX6_probes_2 : decode cX6_probes 2 = .ok (.iload_n 2, 1) := by decide +kernel
theorem dX6_probes_3 : decode cX6_probes 3 = .ok (.invokevirtual 103, 3) := by decide +kernel
theorem dX6_probes_6 : decode cX6_probes 6 = .ok (.getfield 113, 3) := by decide +kernel
theorem dX6_probes_9 : decode cX6_probes 9 = .ok (.ireturn, 1) := by decide +kernel
theorem dX6_plainProbes_0 : decode cX6_plainProbes 0 = .ok (.aload_n 0, 1) := by decide +kernel
theorem dX6_plainProbes_1 : decode cX6_plainProbes 1 = .ok (.iload_n 1, 1) := by decide +kernel
theorem dX6_plainProbes_2 : decode cX6_plainProbes 2 = .ok (.invokevirtual 30, 3) := by decide +kernel
theorem dX6_plainProbes_5 : decode cX6_plainProbes 5 = .ok (.aload_n 0, 1) := by decide +kernel
theorem dX6_plainProbes_6 : decode cX6_plainProbes 6 = .ok (.iload_n 2, 1) := by decide +kernel
theorem dX6_plainProbes_7 : decode cX6_plainProbes 7 = .ok (.invokevirtual 119, 3) := by decide +kernel
theorem dX6_plainProbes_10 : decode cX6_plainProbes 10 = .ok (.aload_n 0, 1) := by decide +kernel
theorem dX6_plainProbes_11 : decode cX6_plainProbes 11 = .ok (.getfield 19, 3) := by decide +kernel
theorem dX6_plainProbes_14 : decode cX6_plainProbes 14 = .ok (.aload_n 0, 1) := by decide +kernel
theorem dX6_plainProbes_15 : decode cX6_plainProbes 15 = .ok (.getfield 10, 3) := by decide +kernel
theorem dX6_plainProbes_18 : decode cX6_plainProbes 18 = .ok (.iload_n 1, 1) := by decide +kernel
theorem dX6_plainProbes_19 : decode cX6_plainProbes 19 = .ok (.iload_n 2, 1) := by decide +kernel
theorem dX6_plainProbes_20 : decode cX6_plainProbes 20 = .ok (.invokevirtual 122, 3) := by decide +kernel
theorem dX6_plainProbes_23 : decode cX6_plainProbes 23 = .ok (.aload_n 0, 1) := by decide +kernel
theorem dX6_plainProbes_24 : decode cX6_plainProbes 24 = .ok (.getfield 19, 3) := by decide +kernel
theorem dX6_plainProbes_27 : decode cX6_plainProbes 27 = .ok (.getfield 113, 3) := by decide +kernel
theorem dX6_plainProbes_30 : decode cX6_plainProbes 30 = .ok (.ireturn, 1) := by decide +kernel
theorem dX6_place_0 : decode cX6_place 0 = .ok (.aload_n 0, 1) := by decide +kernel
theorem dX6_place_1 : decode cX6_place 1 = .ok (.iload_n 1, 1) := by decide +kernel
theorem dX6_place_2 : decode cX6_place 2 = .ok (.iload_n 2, 1) := by decide +kernel
theorem dX6_place_3 : decode cX6_place 3 = .ok (.invokevirtual 103, 3) := by decide +kernel
theorem dX6_place_6 : decode cX6_place 6 = .ok (.getfield 126, 3) := by decide +kernel
theorem dX6_place_9 : decode cX6_place 9 = .ok (.ireturn, 1) := by decide +kernel
theorem dX6_leastOnPath_0 : decode cX6_leastOnPath 0 = .ok (.aload_n 0, 1) := by decide +kernel
theorem dX6_leastOnPath_1 : decode cX6_leastOnPath 1 = .ok (.iload_n 1, 1) := by decide +kernel
theorem dX6_leastOnPath_2 : decode cX6_leastOnPath 2 = .ok (.iload_n 2, 1) := by decide +kernel
theorem dX6_leastOnPath_3 : decode cX6_leastOnPath 3 = .ok (.invokevirtual 103, 3) := by decide +kernel
theorem dX6_leastOnPath_6 : decode cX6_leastOnPath 6 = .ok (.getfield 129, 3) := by decide +kernel
theorem dX6_leastOnPath_9 : decode cX6_leastOnPath 9 = .ok (.ireturn, 1) := by decide +kernel
theorem dX6_nearestOnPath_0 : decode cX6_nearestOnPath 0 = .ok (.aload_n 0, 1) := by decide +kernel
theorem dX6_nearestOnPath_1 : decode cX6_nearestOnPath 1 = .ok (.iload_n 1, 1) := by decide +kernel
theorem dX6_nearestOnPath_2 : decode cX6_nearestOnPath 2 = .ok (.iload_n 2, 1) := by decide +kernel
theorem dX6_nearestOnPath_3 : decode cX6_nearestOnPath 3 = .ok (.invokevirtual 103, 3) := by decide +kernel
theorem dX6_nearestOnPath_6 : decode cX6_nearestOnPath 6 = .ok (.getfield 132, 3) := by decide +kernel
theorem dX6_nearestOnPath_9 : decode cX6_nearestOnPath 9 = .ok (.ireturn, 1) := by decide +kernel
theorem dX6_worst_0 : decode cX6_worst 0 = .ok (.aload_n 0, 1) := by decide +kernel
theorem dX6_worst_1 : decode cX6_worst 1 = .ok (.iload_n 1, 1) := by decide +kernel
theorem dX6_worst_2 : decode cX6_worst 2 = .ok (.invokevirtual 30, 3) := by decide +kernel
theorem dX6_worst_5 : decode cX6_worst 5 = .ok (.aload_n 0, 1) := by decide +kernel
theorem dX6_worst_6 : decode cX6_worst 6 = .ok (.getfield 19, 3) := by decide +kernel
theorem dX6_worst_9 : decode cX6_worst 9 = .ok (.aload_n 0, 1) := by decide +kernel
theorem dX6_worst_10 : decode cX6_worst 10 = .ok (.getfield 10, 3) := by decide +kernel
theorem dX6_worst_13 : decode cX6_worst 13 = .ok (.iload_n 1, 1) := by decide +kernel
theorem dX6_worst_14 : decode cX6_worst 14 = .ok (.invokevirtual 135, 3) := by decide +kernel
theorem dX6_worst_17 : decode cX6_worst 17 = .ok (.ireturn, 1) := by decide +kernel
theorem dX6_walkTo_0 : decode cX6_walkTo 0 = .ok (.aload_n 0, 1) := by decide +kernel
theorem dX6_walkTo_1 : decode cX6_walkTo 1 = .ok (.iload_n 1, 1) := by decide +kernel
theorem dX6_walkTo_2 : decode cX6_walkTo 2 = .ok (.invokevirtual 30, 3) := by decide +kernel
theorem dX6_walkTo_5 : decode cX6_walkTo 5 = .ok (.aload_n 0, 1) := by decide +kernel
theorem dX6_walkTo_6 : decode cX6_walkTo 6 = .ok (.iload_n 2, 1) := by decide +kernel
theorem dX6_walkTo_7 : decode cX6_walkTo 7 = .ok (.invokevirtual 119, 3) := by decide +kernel
theorem dX6_walkTo_10 : decode cX6_walkTo 10 = .ok (.aload_n 0, 1) := by decide +kernel
theorem dX6_walkTo_11 : decode cX6_walkTo 11 = .ok (.getfield 19, 3) := by decide +kernel
theorem dX6_walkTo_14 : decode cX6_walkTo 14 = .ok (.aload_n 0, 1) := by decide +kernel
theorem dX6_walkTo_15 : decode cX6_walkTo 15 = .ok (.getfield 10, 3) := by decide +kernel
theorem dX6_walkTo_18 : decode cX6_walkTo 18 = .ok (.iload_n 1, 1) := by decide +kernel
theorem dX6_walkTo_19 : decode cX6_walkTo 19 = .ok (.iload_n 2, 1) := by decide +kernel
theorem dX6_walkTo_20 : decode cX6_walkTo 20 = .ok (.invokevirtual 139, 3) := by decide +kernel
theorem dX6_walkTo_23 : decode cX6_walkTo 23 = .ok (.aload_n 0, 1) := by decide +kernel
theorem dX6_walkTo_24 : decode cX6_walkTo 24 = .ok (.getfield 19, 3) := by decide +kernel
theorem dX6_walkTo_27 : decode cX6_walkTo 27 = .ok (.areturn, 1) := by decide +kernel
theorem dX6_nodes_0 : decode cX6_nodes 0 = .ok (.aload_n 0, 1) := by decide +kernel
theorem dX6_nodes_1 : decode cX6_nodes 1 = .ok (.getfield 10, 3) := by decide +kernel
theorem dX6_nodes_4 : decode cX6_nodes 4 = .ok (.getfield 38, 3) := by decide +kernel
theorem dX6_nodes_7 : decode cX6_nodes 7 = .ok (.ireturn, 1) := by decide +kernel
theorem dX6_node_0 : decode cX6_node 0 = .ok (.aload_n 0, 1) := by decide +kernel
theorem dX6_node_1 : decode cX6_node 1 = .ok (.iload_n 1, 1) := by decide +kernel
theorem dX6_node_2 : decode cX6_node 2 = .ok (.invokevirtual 30, 3) := by decide +kernel
theorem dX6_node_5 : decode cX6_node 5 = .ok (.aload_n 0, 1) := by decide +kernel
theorem dX6_node_6 : decode cX6_node 6 = .ok (.getfield 10, 3) := by decide +kernel
theorem dX6_node_9 : decode cX6_node 9 = .ok (.iload_n 1, 1) := by decide +kernel
theorem dX6_node_10 : decode cX6_node 10 = .ok (.invokevirtual 42, 3) := by decide +kernel
theorem dX6_node_13 : decode cX6_node 13 = .ok (.astore_n 3, 1) := by decide +kernel
theorem dX6_node_14 : decode cX6_node 14 = .ok (.iload_n 2, 1) := by decide +kernel
theorem dX6_node_15 : decode cX6_node 15 = .ok (.tableswitch 103 0 8 #[49, 54, 59, 64, 69, 74, 82, 87, 95], 49) := by decide +kernel
theorem dX6_node_64 : decode cX6_node 64 = .ok (.aload_n 3, 1) := by decide +kernel
theorem dX6_node_65 : decode cX6_node 65 = .ok (.getfield 142, 3) := by decide +kernel
theorem dX6_node_68 : decode cX6_node 68 = .ok (.ireturn, 1) := by decide +kernel
theorem dX6_node_69 : decode cX6_node 69 = .ok (.aload_n 3, 1) := by decide +kernel
theorem dX6_node_70 : decode cX6_node 70 = .ok (.getfield 145, 3) := by decide +kernel
theorem dX6_node_73 : decode cX6_node 73 = .ok (.ireturn, 1) := by decide +kernel
theorem dX6_node_74 : decode cX6_node 74 = .ok (.aload_n 3, 1) := by decide +kernel
theorem dX6_node_75 : decode cX6_node 75 = .ok (.getfield 148, 3) := by decide +kernel
theorem dX6_node_78 : decode cX6_node 78 = .ok (.ireturn, 1) := by decide +kernel
theorem dX6_node_79 : decode cX6_node 79 = .ok (.aload_n 3, 1) := by decide +kernel
theorem dX6_node_80 : decode cX6_node 80 = .ok (.getfield 151, 3) := by decide +kernel
theorem dX6_node_83 : decode cX6_node 83 = .ok (.ireturn, 1) := by decide +kernel
theorem dX6_node_84 : decode cX6_node 84 = .ok (.aload_n 3, 1) := by decide +kernel
theorem dX6_node_85 : decode cX6_node 85 = .ok (.invokevirtual 154, 3) := by decide +kernel
theorem dX6_node_88 : decode cX6_node 88 = .ok (.ireturn, 1) := by decide +kernel
theorem dX6_node_89 : decode cX6_node 89 = .ok (.aload_n 3, 1) := by decide +kernel
theorem dX6_node_90 : decode cX6_node 90 = .ok (.getfield 157, 3) := by decide +kernel
theorem dX6_node_93 : decode cX6_node 93 = .ok (.invokevirtual 161, 3) := by decide +kernel
theorem dX6_node_96 : decode cX6_node 96 = .ok (.ireturn, 1) := by decide +kernel
theorem dX6_node_97 : decode cX6_node 97 = .ok (.aload_n 3, 1) := by decide +kernel
theorem dX6_node_98 : decode cX6_node 98 = .ok (.getfield 165, 3) := by decide +kernel
theorem dX6_node_101 : decode cX6_node 101 = .ok (.ireturn, 1) := by decide +kernel
theorem dX6_node_102 : decode cX6_node 102 = .ok (.aload_n 3, 1) := by decide +kernel
theorem dX6_node_103 : decode cX6_node 103 = .ok (.getfield 168, 3) := by decide +kernel
theorem dX6_node_106 : decode cX6_node 106 = .ok (.invokevirtual 161, 3) := by decide +kernel
theorem dX6_node_109 : decode cX6_node 109 = .ok (.ireturn, 1) := by decide +kernel
theorem dX6_node_110 : decode cX6_node 110 = .ok (.aload_n 3, 1) := by decide +kernel
theorem dX6_node_111 : decode cX6_node 111 = .ok (.getfield 171, 3) := by decide +kernel
theorem dX6_node_114 : decode cX6_node 114 = .ok (.invokevirtual 175, 3) := by decide +kernel
theorem dX6_node_117 : decode cX6_node 117 = .ok (.ireturn, 1) := by decide +kernel
theorem dX6_node_118 : decode cX6_node 118 = .ok (.new 178, 3) := by decide +kernel
theorem dX6_node_121 : decode cX6_node 121 = .ok (.dup, 1) := by decide +kernel
theorem dX6_node_122 : decode cX6_node 122 = .ok (.ldc 180, 2) := by decide +kernel
theorem dX6_node_124 : decode cX6_node 124 = .ok (.invokespecial 182, 3) := by decide +kernel
theorem dX6_node_127 : decode cX6_node 127 = .ok (.athrow, 1) := by decide +kernel
theorem dX6_key_0 : decode cX6_key 0 = .ok (.aload_n 0, 1) := by decide +kernel
theorem dX6_key_1 : decode cX6_key 1 = .ok (.iload_n 1, 1) := by decide +kernel
theorem dX6_key_2 : decode cX6_key 2 = .ok (.invokevirtual 30, 3) := by decide +kernel
theorem dX6_key_5 : decode cX6_key 5 = .ok (.aload_n 0, 1) := by decide +kernel
theorem dX6_key_6 : decode cX6_key 6 = .ok (.iload_n 2, 1) := by decide +kernel
theorem dX6_key_7 : decode cX6_key 7 = .ok (.ifCond .lt 7, 3) := by decide +kernel
theorem dX6_key_10 : decode cX6_key 10 = .ok (.iconst 1, 1) := by decide +kernel
theorem dX6_key_11 : decode cX6_key 11 = .ok (.goto 4, 3) := by decide +kernel
theorem dX6_key_14 : decode cX6_key 14 = .ok (.iconst 0, 1) := by decide +kernel
theorem dX6_key_15 : decode cX6_key 15 = .ok (.invokevirtual 34, 3) := by decide +kernel
theorem dX6_key_18 : decode cX6_key 18 = .ok (.aload_n 0, 1) := by decide +kernel
theorem dX6_key_19 : decode cX6_key 19 = .ok (.getfield 10, 3) := by decide +kernel
theorem dX6_key_22 : decode cX6_key 22 = .ok (.iload_n 1, 1) := by decide +kernel
theorem dX6_key_23 : decode cX6_key 23 = .ok (.invokevirtual 42, 3) := by decide +kernel
theorem dX6_key_26 : decode cX6_key 26 = .ok (.iload_n 2, 1) := by decide +kernel
theorem dX6_key_27 : decode cX6_key 27 = .ok (.invokevirtual 183, 3) := by decide +kernel
theorem dX6_key_30 : decode cX6_key 30 = .ok (.ireturn, 1) := by decide +kernel
theorem dX6_baseKey_0 : decode cX6_baseKey 0 = .ok (.aload_n 0, 1) := by decide +kernel
theorem dX6_baseKey_1 : decode cX6_baseKey 1 = .ok (.iload_n 1, 1) := by decide +kernel
theorem dX6_baseKey_2 : decode cX6_baseKey 2 = .ok (.invokevirtual 30, 3) := by decide +kernel
theorem dX6_baseKey_5 : decode cX6_baseKey 5 = .ok (.aload_n 0, 1) := by decide +kernel
theorem dX6_baseKey_6 : decode cX6_baseKey 6 = .ok (.iload_n 2, 1) := by decide +kernel
theorem dX6_baseKey_7 : decode cX6_baseKey 7 = .ok (.ifCond .lt 7, 3) := by decide +kernel
theorem dX6_baseKey_10 : decode cX6_baseKey 10 = .ok (.iconst 1, 1) := by decide +kernel
theorem dX6_baseKey_11 : decode cX6_baseKey 11 = .ok (.goto 4, 3) := by decide +kernel
theorem dX6_baseKey_14 : decode cX6_baseKey 14 = .ok (.iconst 0, 1) := by decide +kernel
theorem dX6_baseKey_15 : decode cX6_baseKey 15 = .ok (.invokevirtual 34, 3) := by decide +kernel
theorem dX6_baseKey_18 : decode cX6_baseKey 18 = .ok (.aload_n 0, 1) := by decide +kernel
theorem dX6_baseKey_19 : decode cX6_baseKey 19 = .ok (.getfield 10, 3) := by decide +kernel
theorem dX6_baseKey_22 : decode cX6_baseKey 22 = .ok (.iload_n 1, 1) := by decide +kernel
theorem dX6_baseKey_23 : decode cX6_baseKey 23 = .ok (.invokevirtual 42, 3) := by decide +kernel
theorem dX6_baseKey_26 : decode cX6_baseKey 26 = .ok (.astore_n 3, 1) := by decide +kernel
theorem dX6_baseKey_27 : decode cX6_baseKey 27 = .ok (.aload_n 3, 1) := by decide +kernel
theorem dX6_baseKey_28 : decode cX6_baseKey 28 = .ok (.getfield 157, 3) := by decide +kernel
theorem dX6_baseKey_31 : decode cX6_baseKey 31 = .ok (.iload_n 2, 1) := by decide +kernel
theorem dX6_baseKey_32 : decode cX6_baseKey 32 = .ok (.iconst (-1), 1) := by decide +kernel
theorem dX6_baseKey_33 : decode cX6_baseKey 33 = .ok (.invokevirtual 186, 3) := by decide +kernel
theorem dX6_baseKey_36 : decode cX6_baseKey 36 = .ok (.istore 4, 2) := by decide +kernel
theorem dX6_baseKey_38 : decode cX6_baseKey 38 = .ok (.aload_n 3, 1) := by decide +kernel
theorem dX6_baseKey_39 : decode cX6_baseKey 39 = .ok (.iload_n 2, 1) := by decide +kernel
theorem dX6_baseKey_40 : decode cX6_baseKey 40 = .ok (.invokevirtual 188, 3) := by decide +kernel
theorem dX6_baseKey_43 : decode cX6_baseKey 43 = .ok (.ifCond .eq 12, 3) := by decide +kernel
theorem dX6_baseKey_46 : decode cX6_baseKey 46 = .ok (.iload 4, 2) := by decide +kernel
theorem dX6_baseKey_48 : decode cX6_baseKey 48 = .ok (.sipush 10000, 3) := by decide +kernel
theorem dX6_baseKey_51 : decode cX6_baseKey 51 = .ok (.iadd, 1) := by decide +kernel
theorem dX6_baseKey_52 : decode cX6_baseKey 52 = .ok (.goto 5, 3) := by decide +kernel
theorem dX6_baseKey_55 : decode cX6_baseKey 55 = .ok (.iload 4, 2) := by decide +kernel
theorem dX6_baseKey_57 : decode cX6_baseKey 57 = .ok (.ireturn, 1) := by decide +kernel
theorem dX6_bufferKey_0 : decode cX6_bufferKey 0 = .ok (.aload_n 0, 1) := by decide +kernel
theorem dX6_bufferKey_1 : decode cX6_bufferKey 1 = .ok (.iload_n 1, 1) := by decide +kernel
theorem dX6_bufferKey_2 : decode cX6_bufferKey 2 = .ok (.invokevirtual 30, 3) := by decide +kernel
theorem dX6_bufferKey_5 : decode cX6_bufferKey 5 = .ok (.aload_n 0, 1) := by decide +kernel
theorem dX6_bufferKey_6 : decode cX6_bufferKey 6 = .ok (.iload_n 2, 1) := by decide +kernel
theorem dX6_bufferKey_7 : decode cX6_bufferKey 7 = .ok (.ifCond .lt 7, 3) := by decide +kernel
theorem dX6_bufferKey_10 : decode cX6_bufferKey 10 = .ok (.iconst 1, 1) := by decide +kernel
theorem dX6_bufferKey_11 : decode cX6_bufferKey 11 = .ok (.goto 4, 3) := by decide +kernel
theorem dX6_bufferKey_14 : decode cX6_bufferKey 14 = .ok (.iconst 0, 1) := by decide +kernel
theorem dX6_bufferKey_15 : decode cX6_bufferKey 15 = .ok (.invokevirtual 34, 3) := by decide +kernel
theorem dX6_bufferKey_18 : decode cX6_bufferKey 18 = .ok (.aload_n 0, 1) := by decide +kernel
theorem dX6_bufferKey_19 : decode cX6_bufferKey 19 = .ok (.getfield 10, 3) := by decide +kernel
theorem dX6_bufferKey_22 : decode cX6_bufferKey 22 = .ok (.iload_n 1, 1) := by decide +kernel
theorem dX6_bufferKey_23 : decode cX6_bufferKey 23 = .ok (.invokevirtual 42, 3) := by decide +kernel
theorem dX6_bufferKey_26 : decode cX6_bufferKey 26 = .ok (.getfield 168, 3) := by decide +kernel
theorem dX6_bufferKey_29 : decode cX6_bufferKey 29 = .ok (.iload_n 2, 1) := by decide +kernel
theorem dX6_bufferKey_30 : decode cX6_bufferKey 30 = .ok (.iconst (-1), 1) := by decide +kernel
theorem dX6_bufferKey_31 : decode cX6_bufferKey 31 = .ok (.invokevirtual 186, 3) := by decide +kernel
theorem dX6_bufferKey_34 : decode cX6_bufferKey 34 = .ok (.ireturn, 1) := by decide +kernel
theorem dX6_entry_0 : decode cX6_entry 0 = .ok (.aload_n 0, 1) := by decide +kernel
theorem dX6_entry_1 : decode cX6_entry 1 = .ok (.iload_n 1, 1) := by decide +kernel
theorem dX6_entry_2 : decode cX6_entry 2 = .ok (.invokevirtual 30, 3) := by decide +kernel
theorem dX6_entry_5 : decode cX6_entry 5 = .ok (.aload_n 0, 1) := by decide +kernel
theorem dX6_entry_6 : decode cX6_entry 6 = .ok (.iload_n 2, 1) := by decide +kernel
theorem dX6_entry_7 : decode cX6_entry 7 = .ok (.ifCond .lt 7, 3) := by decide +kernel
theorem dX6_entry_10 : decode cX6_entry 10 = .ok (.iconst 1, 1) := by decide +kernel
theorem dX6_entry_11 : decode cX6_entry 11 = .ok (.goto 4, 3) := by decide +kernel
theorem dX6_entry_14 : decode cX6_entry 14 = .ok (.iconst 0, 1) := by decide +kernel
theorem dX6_entry_15 : decode cX6_entry 15 = .ok (.invokevirtual 34, 3) := by decide +kernel
theorem dX6_entry_18 : decode cX6_entry 18 = .ok (.aload_n 0, 1) := by decide +kernel
theorem dX6_entry_19 : decode cX6_entry 19 = .ok (.iload_n 3, 1) := by decide +kernel
theorem dX6_entry_20 : decode cX6_entry 20 = .ok (.ifCond .eq 8, 3) := by decide +kernel
theorem dX6_entry_23 : decode cX6_entry 23 = .ok (.iload_n 3, 1) := by decide +kernel
theorem dX6_entry_24 : decode cX6_entry 24 = .ok (.iconst 1, 1) := by decide +kernel
theorem dX6_entry_25 : decode cX6_entry 25 = .ok (.if_icmp .ne 7, 3) := by decide +kernel
theorem dX6_entry_28 : decode cX6_entry 28 = .ok (.iconst 1, 1) := by decide +kernel
theorem dX6_entry_29 : decode cX6_entry 29 = .ok (.goto 4, 3) := by decide +kernel
theorem dX6_entry_32 : decode cX6_entry 32 = .ok (.iconst 0, 1) := by decide +kernel
theorem dX6_entry_33 : decode cX6_entry 33 = .ok (.invokevirtual 34, 3) := by decide +kernel
theorem dX6_entry_36 : decode cX6_entry 36 = .ok (.aload_n 0, 1) := by decide +kernel
theorem dX6_entry_37 : decode cX6_entry 37 = .ok (.getfield 10, 3) := by decide +kernel
theorem dX6_entry_40 : decode cX6_entry 40 = .ok (.iload_n 1, 1) := by decide +kernel
theorem dX6_entry_41 : decode cX6_entry 41 = .ok (.invokevirtual 42, 3) := by decide +kernel
theorem dX6_entry_44 : decode cX6_entry 44 = .ok (.getfield 171, 3) := by decide +kernel
theorem dX6_entry_47 : decode cX6_entry 47 = .ok (.astore 4, 2) := by decide +kernel
theorem dX6_entry_49 : decode cX6_entry 49 = .ok (.iload_n 3, 1) := by decide +kernel
theorem dX6_entry_50 : decode cX6_entry 50 = .ok (.ifCond .ne 16, 3) := by decide +kernel
theorem dX6_entry_53 : decode cX6_entry 53 = .ok (.aload 4, 2) := by decide +kernel
theorem dX6_entry_55 : decode cX6_entry 55 = .ok (.getfield 191, 3) := by decide +kernel
theorem dX6_entry_58 : decode cX6_entry 58 = .ok (.iload_n 2, 1) := by decide +kernel
theorem dX6_entry_59 : decode cX6_entry 59 = .ok (.iconst (-1), 1) := by decide +kernel
theorem dX6_entry_60 : decode cX6_entry 60 = .ok (.invokevirtual 186, 3) := by decide +kernel
theorem dX6_entry_63 : decode cX6_entry 63 = .ok (.goto 13, 3) := by decide +kernel
theorem dX6_entry_66 : decode cX6_entry 66 = .ok (.aload 4, 2) := by decide +kernel
theorem dX6_entry_68 : decode cX6_entry 68 = .ok (.getfield 194, 3) := by decide +kernel
theorem dX6_entry_71 : decode cX6_entry 71 = .ok (.iload_n 2, 1) := by decide +kernel
theorem dX6_entry_72 : decode cX6_entry 72 = .ok (.iconst (-1), 1) := by decide +kernel
theorem dX6_entry_73 : decode cX6_entry 73 = .ok (.invokevirtual 186, 3) := by decide +kernel
theorem dX6_entry_76 : decode cX6_entry 76 = .ok (.ireturn, 1) := by decide +kernel
theorem dX6_bridge_0 : decode cX6_bridge 0 = .ok (.aload_n 0, 1) := by decide +kernel
theorem dX6_bridge_1 : decode cX6_bridge 1 = .ok (.iload_n 1, 1) := by decide +kernel
theorem dX6_bridge_2 : decode cX6_bridge 2 = .ok (.invokevirtual 30, 3) := by decide +kernel
theorem dX6_bridge_5 : decode cX6_bridge 5 = .ok (.aload_n 0, 1) := by decide +kernel
theorem dX6_bridge_6 : decode cX6_bridge 6 = .ok (.getfield 10, 3) := by decide +kernel
theorem dX6_bridge_9 : decode cX6_bridge 9 = .ok (.iload_n 1, 1) := by decide +kernel
theorem dX6_bridge_10 : decode cX6_bridge 10 = .ok (.invokevirtual 42, 3) := by decide +kernel
theorem dX6_bridge_13 : decode cX6_bridge 13 = .ok (.getfield 171, 3) := by decide +kernel
theorem dX6_bridge_16 : decode cX6_bridge 16 = .ok (.astore 4, 2) := by decide +kernel
theorem dX6_bridge_18 : decode cX6_bridge 18 = .ok (.aload_n 0, 1) := by decide +kernel
theorem dX6_bridge_19 : decode cX6_bridge 19 = .ok (.iload_n 2, 1) := by decide +kernel
theorem dX6_bridge_20 : decode cX6_bridge 20 = .ok (.ifCond .lt 16, 3) := by decide +kernel
theorem dX6_bridge_23 : decode cX6_bridge 23 = .ok (.iload_n 2, 1) := by decide +kernel
theorem dX6_bridge_24 : decode cX6_bridge 24 = .ok (.aload 4, 2) := by decide +kernel
theorem dX6_bridge_26 : decode cX6_bridge 26 = .ok (.invokevirtual 175, 3) := by decide +kernel
theorem dX6_bridge_29 : decode cX6_bridge 29 = .ok (.if_icmp .gt 7, 3) := by decide +kernel
theorem dX6_bridge_32 : decode cX6_bridge 32 = .ok (.iconst 1, 1) := by decide +kernel
theorem dX6_bridge_33 : decode cX6_bridge 33 = .ok (.goto 4, 3) := by decide +kernel
theorem dX6_bridge_36 : decode cX6_bridge 36 = .ok (.iconst 0, 1) := by decide +kernel
theorem dX6_bridge_37 : decode cX6_bridge 37 = .ok (.invokevirtual 34, 3) := by decide +kernel
theorem dX6_bridge_40 : decode cX6_bridge 40 = .ok (.aload_n 0, 1) := by decide +kernel
theorem dX6_bridge_41 : decode cX6_bridge 41 = .ok (.iload_n 3, 1) := by decide +kernel
theorem dX6_bridge_42 : decode cX6_bridge 42 = .ok (.ifCond .eq 13, 3) := by decide +kernel
theorem dX6_bridge_45 : decode cX6_bridge 45 = .ok (.iload_n 3, 1) := by decide +kernel
theorem dX6_bridge_46 : decode cX6_bridge 46 = .ok (.iconst 1, 1) := by decide +kernel
theorem dX6_bridge_47 : decode cX6_bridge 47 = .ok (.if_icmp .eq 8, 3) := by decide +kernel
theorem dX6_bridge_50 : decode cX6_bridge 50 = .ok (.iload_n 3, 1) := by decide +kernel
theorem dX6_bridge_51 : decode cX6_bridge 51 = .ok (.iconst 2, 1) := by decide +kernel
theorem dX6_bridge_52 : decode cX6_bridge 52 = .ok (.if_icmp .ne 7, 3) := by decide +kernel
theorem dX6_bridge_55 : decode cX6_bridge 55 = .ok (.iconst 1, 1) := by decide +kernel
theorem dX6_bridge_56 : decode cX6_bridge 56 = .ok (.goto 4, 3) := by decide +kernel
theorem dX6_bridge_59 : decode cX6_bridge 59 = .ok (.iconst 0, 1) := by decide +kernel
theorem dX6_bridge_60 : decode cX6_bridge 60 = .ok (.invokevirtual 34, 3) := by decide +kernel
theorem dX6_bridge_63 : decode cX6_bridge 63 = .ok (.aload 4, 2) := by decide +kernel
theorem dX6_bridge_65 : decode cX6_bridge 65 = .ok (.iload_n 2, 1) := by decide +kernel
theorem dX6_bridge_66 : decode cX6_bridge 66 = .ok (.iload_n 3, 1) := by decide +kernel
theorem dX6_bridge_67 : decode cX6_bridge 67 = .ok (.invokevirtual 197, 3) := by decide +kernel
theorem dX6_bridge_70 : decode cX6_bridge 70 = .ok (.ireturn, 1) := by decide +kernel
theorem dX6_count_0 : decode cX6_count 0 = .ok (.iload_n 1, 1) := by decide +kernel
theorem dX6_count_1 : decode cX6_count 1 = .ok (.tableswitch 99 0 6 #[43, 51, 59, 67, 75, 83, 91], 43) := by decide +kernel
theorem dX6_count_44 : decode cX6_count 44 = .ok (.aload_n 0, 1) := by decide +kernel
theorem dX6_count_45 : decode cX6_count 45 = .ok (.getfield 10, 3) := by decide +kernel
theorem dX6_count_48 : decode cX6_count 48 = .ok (.getfield 107, 3) := by decide +kernel
theorem dX6_count_51 : decode cX6_count 51 = .ok (.ireturn, 1) := by decide +kernel
theorem dX6_count_52 : decode cX6_count 52 = .ok (.aload_n 0, 1) := by decide +kernel
theorem dX6_count_53 : decode cX6_count 53 = .ok (.getfield 10, 3) := by decide +kernel
theorem dX6_count_56 : decode cX6_count 56 = .ok (.getfield 110, 3) := by decide +kernel
theorem dX6_count_59 : decode cX6_count 59 = .ok (.ireturn, 1) := by decide +kernel
theorem dX6_count_60 : decode cX6_count 60 = .ok (.aload_n 0, 1) := by decide +kernel
theorem dX6_count_61 : decode cX6_count 61 = .ok (.getfield 10, 3) := by decide +kernel
theorem dX6_count_64 : decode cX6_count 64 = .ok (.getfield 200, 3) := by decide +kernel
theorem dX6_count_67 : decode cX6_count 67 = .ok (.ireturn, 1) := by decide +kernel
theorem dX6_count_68 : decode cX6_count 68 = .ok (.aload_n 0, 1) := by decide +kernel
theorem dX6_count_69 : decode cX6_count 69 = .ok (.getfield 10, 3) := by decide +kernel
theorem dX6_count_72 : decode cX6_count 72 = .ok (.getfield 203, 3) := by decide +kernel
theorem dX6_count_75 : decode cX6_count 75 = .ok (.ireturn, 1) := by decide +kernel
theorem dX6_count_76 : decode cX6_count 76 = .ok (.aload_n 0, 1) := by decide +kernel
theorem dX6_count_77 : decode cX6_count 77 = .ok (.getfield 10, 3) := by decide +kernel
theorem dX6_count_80 : decode cX6_count 80 = .ok (.getfield 206, 3) := by decide +kernel
theorem dX6_count_83 : decode cX6_count 83 = .ok (.ireturn, 1) := by decide +kernel
theorem dX6_count_84 : decode cX6_count 84 = .ok (.aload_n 0, 1) := by decide +kernel
theorem dX6_count_85 : decode cX6_count 85 = .ok (.getfield 10, 3) := by decide +kernel
theorem dX6_count_88 : decode cX6_count 88 = .ok (.invokevirtual 209, 3) := by decide +kernel
theorem dX6_count_91 : decode cX6_count 91 = .ok (.ireturn, 1) := by decide +kernel
theorem dX6_count_92 : decode cX6_count 92 = .ok (.aload_n 0, 1) := by decide +kernel
theorem dX6_count_93 : decode cX6_count 93 = .ok (.getfield 10, 3) := by decide +kernel
theorem dX6_count_96 : decode cX6_count 96 = .ok (.invokevirtual 99, 3) := by decide +kernel
theorem dX6_count_99 : decode cX6_count 99 = .ok (.ireturn, 1) := by decide +kernel
theorem dX6_count_100 : decode cX6_count 100 = .ok (.new 178, 3) := by decide +kernel
theorem dX6_count_103 : decode cX6_count 103 = .ok (.dup, 1) := by decide +kernel
theorem dX6_count_104 : decode cX6_count 104 = .ok (.ldc 212, 2) := by decide +kernel
theorem dX6_count_106 : decode cX6_count 106 = .ok (.invokespecial 182, 3) := by decide +kernel
theorem dX6_count_109 : decode cX6_count 109 = .ok (.athrow, 1) := by decide +kernel
theorem dX6_undo_0 : decode cX6_undo 0 = .ok (.aload_n 0, 1) := by decide +kernel
theorem dX6_undo_1 : decode cX6_undo 1 = .ok (.getfield 26, 3) := by decide +kernel
theorem dX6_undo_4 : decode cX6_undo 4 = .ok (.getfield 214, 3) := by decide +kernel
theorem dX6_undo_7 : decode cX6_undo 7 = .ok (.ifCond .ne 13, 3) := by decide +kernel
theorem dX6_undo_10 : decode cX6_undo 10 = .ok (.new 52, 3) := by decide +kernel
theorem dX6_undo_13 : decode cX6_undo 13 = .ok (.dup, 1) := by decide +kernel
theorem dX6_undo_14 : decode cX6_undo 14 = .ok (.ldc 215, 2) := by decide +kernel
theorem dX6_undo_16 : decode cX6_undo 16 = .ok (.invokespecial 56, 3) := by decide +kernel
theorem dX6_undo_19 : decode cX6_undo 19 = .ok (.athrow, 1) := by decide +kernel
theorem dX6_undo_20 : decode cX6_undo 20 = .ok (.aload_n 0, 1) := by decide +kernel
theorem dX6_undo_21 : decode cX6_undo 21 = .ok (.getfield 26, 3) := by decide +kernel
theorem dX6_undo_24 : decode cX6_undo 24 = .ok (.aload_n 0, 1) := by decide +kernel
theorem dX6_undo_25 : decode cX6_undo 25 = .ok (.getfield 10, 3) := by decide +kernel
theorem dX6_undo_28 : decode cX6_undo 28 = .ok (.invokevirtual 217, 3) := by decide +kernel
theorem dX6_undo_31 : decode cX6_undo 31 = .ok (.aload_n 0, 1) := by decide +kernel
theorem dX6_undo_32 : decode cX6_undo 32 = .ok (.getfield 26, 3) := by decide +kernel
theorem dX6_undo_35 : decode cX6_undo 35 = .ok (.getfield 214, 3) := by decide +kernel
theorem dX6_undo_38 : decode cX6_undo 38 = .ok (.ireturn, 1) := by decide +kernel
theorem dX6_digest_0 : decode cX6_digest 0 = .ok (.ldc2_w 220, 3) := by decide +kernel
theorem dX6_digest_3 : decode cX6_digest 3 = .ok (.lstore_n 1, 1) := by decide +kernel
theorem dX6_digest_4 : decode cX6_digest 4 = .ok (.ldc2_w 222, 3) := by decide +kernel
theorem dX6_digest_7 : decode cX6_digest 7 = .ok (.lload_n 1, 1) := by decide +kernel
theorem dX6_digest_8 : decode cX6_digest 8 = .ok (.lmul, 1) := by decide +kernel
theorem dX6_digest_9 : decode cX6_digest 9 = .ok (.aload_n 0, 1) := by decide +kernel
theorem dX6_digest_10 : decode cX6_digest 10 = .ok (.getfield 26, 3) := by decide +kernel
theorem dX6_digest_13 : decode cX6_digest 13 = .ok (.getfield 214, 3) := by decide +kernel
theorem dX6_digest_16 : decode cX6_digest 16 = .ok (.i2l, 1) := by decide +kernel
theorem dX6_digest_17 : decode cX6_digest 17 = .ok (.ladd, 1) := by decide +kernel
theorem dX6_digest_18 : decode cX6_digest 18 = .ok (.lstore_n 1, 1) := by decide +kernel
theorem dX6_digest_19 : decode cX6_digest 19 = .ok (.ldc2_w 222, 3) := by decide +kernel
theorem dX6_digest_22 : decode cX6_digest 22 = .ok (.lload_n 1, 1) := by decide +kernel
theorem dX6_digest_23 : decode cX6_digest 23 = .ok (.lmul, 1) := by decide +kernel
theorem dX6_digest_24 : decode cX6_digest 24 = .ok (.aload_n 0, 1) := by decide +kernel
theorem dX6_digest_25 : decode cX6_digest 25 = .ok (.getfield 10, 3) := by decide +kernel
theorem dX6_digest_28 : decode cX6_digest 28 = .ok (.getfield 87, 3) := by decide +kernel
theorem dX6_digest_31 : decode cX6_digest 31 = .ok (.i2l, 1) := by decide +kernel
theorem dX6_digest_32 : decode cX6_digest 32 = .ok (.ladd, 1) := by decide +kernel
theorem dX6_digest_33 : decode cX6_digest 33 = .ok (.lstore_n 1, 1) := by decide +kernel
theorem dX6_digest_34 : decode cX6_digest 34 = .ok (.ldc2_w 222, 3) := by decide +kernel
theorem dX6_digest_37 : decode cX6_digest 37 = .ok (.lload_n 1, 1) := by decide +kernel
theorem dX6_digest_38 : decode cX6_digest 38 = .ok (.lmul, 1) := by decide +kernel
theorem dX6_digest_39 : decode cX6_digest 39 = .ok (.aload_n 0, 1) := by decide +kernel
theorem dX6_digest_40 : decode cX6_digest 40 = .ok (.getfield 10, 3) := by decide +kernel
theorem dX6_digest_43 : decode cX6_digest 43 = .ok (.getfield 90, 3) := by decide +kernel
theorem dX6_digest_46 : decode cX6_digest 46 = .ok (.i2l, 1) := by decide +kernel
theorem dX6_digest_47 : decode cX6_digest 47 = .ok (.ladd, 1) := by decide +kernel
theorem dX6_digest_48 : decode cX6_digest 48 = .ok (.lstore_n 1, 1) := by decide +kernel
theorem dX6_digest_49 : decode cX6_digest 49 = .ok (.ldc2_w 222, 3) := by decide +kernel
theorem dX6_digest_52 : decode cX6_digest 52 = .ok (.lload_n 1, 1) := by decide +kernel
theorem dX6_digest_53 : decode cX6_digest 53 = .ok (.lmul, 1) := by decide +kernel
theorem dX6_digest_54 : decode cX6_digest 54 = .ok (.aload_n 0, 1) := by decide +kernel
theorem dX6_digest_55 : decode cX6_digest 55 = .ok (.invokevirtual 224, 3) := by decide +kernel
theorem dX6_digest_58 : decode cX6_digest 58 = .ok (.i2l, 1) := by decide +kernel
theorem dX6_digest_59 : decode cX6_digest 59 = .ok (.ladd, 1) := by decide +kernel
theorem dX6_digest_60 : decode cX6_digest 60 = .ok (.lstore_n 1, 1) := by decide +kernel
theorem dX6_digest_61 : decode cX6_digest 61 = .ok (.iconst 0, 1) := by decide +kernel
theorem dX6_digest_62 : decode cX6_digest 62 = .ok (.istore_n 3, 1) := by decide +kernel
theorem dX6_digest_63 : decode cX6_digest 63 = .ok (.iload_n 3, 1) := by decide +kernel
theorem dX6_digest_64 : decode cX6_digest 64 = .ok (.aload_n 0, 1) := by decide +kernel
theorem dX6_digest_65 : decode cX6_digest 65 = .ok (.getfield 10, 3) := by decide +kernel
theorem dX6_digest_68 : decode cX6_digest 68 = .ok (.getfield 38, 3) := by decide +kernel
theorem dX6_digest_71 : decode cX6_digest 71 = .ok (.if_icmp .ge 16, 3) := by decide +kernel
theorem dX6_digest_74 : decode cX6_digest 74 = .ok (.aload_n 0, 1) := by decide +kernel
theorem dX6_digest_75 : decode cX6_digest 75 = .ok (.lload_n 1, 1) := by decide +kernel
theorem dX6_digest_76 : decode cX6_digest 76 = .ok (.iload_n 3, 1) := by decide +kernel
theorem dX6_digest_77 : decode cX6_digest 77 = .ok (.invokevirtual 227, 3) := by decide +kernel
theorem dX6_digest_80 : decode cX6_digest 80 = .ok (.lstore_n 1, 1) := by decide +kernel
theorem dX6_digest_81 : decode cX6_digest 81 = .ok (.iinc 3 1, 3) := by decide +kernel
theorem dX6_digest_84 : decode cX6_digest 84 = .ok (.goto (-21), 3) := by decide +kernel
theorem dX6_digest_87 : decode cX6_digest 87 = .ok (.iconst 0, 1) := by decide +kernel
theorem dX6_digest_88 : decode cX6_digest 88 = .ok (.istore_n 3, 1) := by decide +kernel
theorem dX6_digest_89 : decode cX6_digest 89 = .ok (.iload_n 3, 1) := by decide +kernel
theorem dX6_digest_90 : decode cX6_digest 90 = .ok (.bipush 6, 2) := by decide +kernel
theorem dX6_digest_92 : decode cX6_digest 92 = .ok (.if_icmp .gt 22, 3) := by decide +kernel
theorem dX6_digest_95 : decode cX6_digest 95 = .ok (.ldc2_w 222, 3) := by decide +kernel
theorem dX6_digest_98 : decode cX6_digest 98 = .ok (.lload_n 1, 1) := by decide +kernel
theorem dX6_digest_99 : decode cX6_digest 99 = .ok (.lmul, 1) := by decide +kernel
theorem dX6_digest_100 : decode cX6_digest 100 = .ok (.aload_n 0, 1) := by decide +kernel
theorem dX6_digest_101 : decode cX6_digest 101 = .ok (.iload_n 3, 1) := by decide +kernel
theorem dX6_digest_102 : decode cX6_digest 102 = .ok (.invokevirtual 231, 3) := by decide +kernel
theorem dX6_digest_105 : decode cX6_digest 105 = .ok (.i2l, 1) := by decide +kernel
theorem dX6_digest_106 : decode cX6_digest 106 = .ok (.ladd, 1) := by decide +kernel
theorem dX6_digest_107 : decode cX6_digest 107 = .ok (.lstore_n 1, 1) := by decide +kernel
theorem dX6_digest_108 : decode cX6_digest 108 = .ok (.iinc 3 1, 3) := by decide +kernel
theorem dX6_digest_111 : decode cX6_digest 111 = .ok (.goto (-22), 3) := by decide +kernel
theorem dX6_digest_114 : decode cX6_digest 114 = .ok (.lload_n 1, 1) := by decide +kernel
theorem dX6_digest_115 : decode cX6_digest 115 = .ok (.lreturn, 1) := by decide +kernel
theorem dX6_withNode_0 : decode cX6_withNode 0 = .ok (.aload_n 0, 1) := by decide +kernel
theorem dX6_withNode_1 : decode cX6_withNode 1 = .ok (.getfield 10, 3) := by decide +kernel
theorem dX6_withNode_4 : decode cX6_withNode 4 = .ok (.iload_n 3, 1) := by decide +kernel
theorem dX6_withNode_5 : decode cX6_withNode 5 = .ok (.invokevirtual 42, 3) := by decide +kernel
theorem dX6_withNode_8 : decode cX6_withNode 8 = .ok (.astore 4, 2) := by decide +kernel
theorem dX6_withNode_10 : decode cX6_withNode 10 = .ok (.lload_n 1, 1) := by decide +kernel
theorem dX6_withNode_11 : decode cX6_withNode 11 = .ok (.lstore 5, 2) := by decide +kernel
theorem dX6_withNode_13 : decode cX6_withNode 13 = .ok (.iconst 0, 1) := by decide +kernel
theorem dX6_withNode_14 : decode cX6_withNode 14 = .ok (.istore 7, 2) := by decide +kernel
theorem dX6_withNode_16 : decode cX6_withNode 16 = .ok (.iload 7, 2) := by decide +kernel
theorem dX6_withNode_18 : decode cX6_withNode 18 = .ok (.bipush 8, 2) := by decide +kernel
theorem dX6_withNode_20 : decode cX6_withNode 20 = .ok (.if_icmp .gt 26, 3) := by decide +kernel
theorem dX6_withNode_23 : decode cX6_withNode 23 = .ok (.ldc2_w 222, 3) := by decide +kernel
theorem dX6_withNode_26 : decode cX6_withNode 26 = .ok (.lload 5, 2) := by decide +kernel
theorem dX6_withNode_28 : decode cX6_withNode 28 = .ok (.lmul, 1) := by decide +kernel
theorem dX6_withNode_29 : decode cX6_withNode 29 = .ok (.aload_n 0, 1) := by decide +kernel
theorem dX6_withNode_30 : decode cX6_withNode 30 = .ok (.iload_n 3, 1) := by decide +kernel
theorem dX6_withNode_31 : decode cX6_withNode 31 = .ok (.iload 7, 2) := by decide +kernel
theorem dX6_withNode_33 : decode cX6_withNode 33 = .ok (.invokevirtual 234, 3) := by decide +kernel
theorem dX6_withNode_36 : decode cX6_withNode 36 = .ok (.i2l, 1) := by decide +kernel
theorem dX6_withNode_37 : decode cX6_withNode 37 = .ok (.ladd, 1) := by decide +kernel
theorem dX6_withNode_38 : decode cX6_withNode 38 = .ok (.lstore 5, 2) := by decide +kernel
theorem dX6_withNode_40 : decode cX6_withNode 40 = .ok (.iinc 7 1, 3) := by decide +kernel
theorem dX6_withNode_43 : decode cX6_withNode 43 = .ok (.goto (-27), 3) := by decide +kernel
theorem dX6_withNode_46 : decode cX6_withNode 46 = .ok (.iconst 0, 1) := by decide +kernel
theorem dX6_withNode_47 : decode cX6_withNode 47 = .ok (.istore 7, 2) := by decide +kernel
theorem dX6_withNode_49 : decode cX6_withNode 49 = .ok (.iload 7, 2) := by decide +kernel
theorem dX6_withNode_51 : decode cX6_withNode 51 = .ok (.aload 4, 2) := by decide +kernel
theorem dX6_withNode_53 : decode cX6_withNode 53 = .ok (.getfield 157, 3) := by decide +kernel
theorem dX6_withNode_56 : decode cX6_withNode 56 = .ok (.invokevirtual 161, 3) := by decide +kernel
theorem dX6_withNode_59 : decode cX6_withNode 59 = .ok (.if_icmp .ge 26, 3) := by decide +kernel
theorem dX6_withNode_62 : decode cX6_withNode 62 = .ok (.ldc2_w 222, 3) := by decide +kernel
theorem dX6_withNode_65 : decode cX6_withNode 65 = .ok (.lload 5, 2) := by decide +kernel
theorem dX6_withNode_67 : decode cX6_withNode 67 = .ok (.lmul, 1) := by decide +kernel
theorem dX6_withNode_68 : decode cX6_withNode 68 = .ok (.aload_n 0, 1) := by decide +kernel
theorem dX6_withNode_69 : decode cX6_withNode 69 = .ok (.iload_n 3, 1) := by decide +kernel
theorem dX6_withNode_70 : decode cX6_withNode 70 = .ok (.iload 7, 2) := by decide +kernel
theorem dX6_withNode_72 : decode cX6_withNode 72 = .ok (.invokevirtual 237, 3) := by decide +kernel
theorem dX6_withNode_75 : decode cX6_withNode 75 = .ok (.i2l, 1) := by decide +kernel
theorem dX6_withNode_76 : decode cX6_withNode 76 = .ok (.ladd, 1) := by decide +kernel
theorem dX6_withNode_77 : decode cX6_withNode 77 = .ok (.lstore 5, 2) := by decide +kernel
theorem dX6_withNode_79 : decode cX6_withNode 79 = .ok (.iinc 7 1, 3) := by decide +kernel
theorem dX6_withNode_82 : decode cX6_withNode 82 = .ok (.goto (-33), 3) := by decide +kernel
theorem dX6_withNode_85 : decode cX6_withNode 85 = .ok (.iconst 0, 1) := by decide +kernel
theorem dX6_withNode_86 : decode cX6_withNode 86 = .ok (.istore 7, 2) := by decide +kernel
theorem dX6_withNode_88 : decode cX6_withNode 88 = .ok (.iload 7, 2) := by decide +kernel
theorem dX6_withNode_90 : decode cX6_withNode 90 = .ok (.aload 4, 2) := by decide +kernel
theorem dX6_withNode_92 : decode cX6_withNode 92 = .ok (.getfield 168, 3) := by decide +kernel
theorem dX6_withNode_95 : decode cX6_withNode 95 = .ok (.invokevirtual 161, 3) := by decide +kernel
theorem dX6_withNode_98 : decode cX6_withNode 98 = .ok (.if_icmp .ge 26, 3) := by decide +kernel
theorem dX6_withNode_101 : decode cX6_withNode 101 = .ok (.ldc2_w 222, 3) := by decide +kernel
theorem dX6_withNode_104 : decode cX6_withNode 104 = .ok (.lload 5, 2) := by decide +kernel
theorem dX6_withNode_106 : decode cX6_withNode 106 = .ok (.lmul, 1) := by decide +kernel
theorem dX6_withNode_107 : decode cX6_withNode 107 = .ok (.aload_n 0, 1) := by decide +kernel
theorem dX6_withNode_108 : decode cX6_withNode 108 = .ok (.iload_n 3, 1) := by decide +kernel
theorem dX6_withNode_109 : decode cX6_withNode 109 = .ok (.iload 7, 2) := by decide +kernel
theorem dX6_withNode_111 : decode cX6_withNode 111 = .ok (.invokevirtual 240, 3) := by decide +kernel
theorem dX6_withNode_114 : decode cX6_withNode 114 = .ok (.i2l, 1) := by decide +kernel
theorem dX6_withNode_115 : decode cX6_withNode 115 = .ok (.ladd, 1) := by decide +kernel
theorem dX6_withNode_116 : decode cX6_withNode 116 = .ok (.lstore 5, 2) := by decide +kernel
theorem dX6_withNode_118 : decode cX6_withNode 118 = .ok (.iinc 7 1, 3) := by decide +kernel
theorem dX6_withNode_121 : decode cX6_withNode 121 = .ok (.goto (-33), 3) := by decide +kernel
theorem dX6_withNode_124 : decode cX6_withNode 124 = .ok (.iconst 0, 1) := by decide +kernel
theorem dX6_withNode_125 : decode cX6_withNode 125 = .ok (.istore 7, 2) := by decide +kernel
theorem dX6_withNode_127 : decode cX6_withNode 127 = .ok (.iload 7, 2) := by decide +kernel
theorem dX6_withNode_129 : decode cX6_withNode 129 = .ok (.aload 4, 2) := by decide +kernel
theorem dX6_withNode_131 : decode cX6_withNode 131 = .ok (.getfield 171, 3) := by decide +kernel
theorem dX6_withNode_134 : decode cX6_withNode 134 = .ok (.invokevirtual 175, 3) := by decide +kernel
theorem dX6_withNode_137 : decode cX6_withNode 137 = .ok (.if_icmp .ge 24, 3) := by decide +kernel
theorem dX6_withNode_140 : decode cX6_withNode 140 = .ok (.aload_n 0, 1) := by decide +kernel
theorem dX6_withNode_141 : decode cX6_withNode 141 = .ok (.lload 5, 2) := by decide +kernel
theorem dX6_withNode_143 : decode cX6_withNode 143 = .ok (.aload 4, 2) := by decide +kernel
theorem dX6_withNode_145 : decode cX6_withNode 145 = .ok (.getfield 171, 3) := by decide +kernel
theorem dX6_withNode_148 : decode cX6_withNode 148 = .ok (.iload 7, 2) := by decide +kernel
theorem dX6_withNode_150 : decode cX6_withNode 150 = .ok (.invokevirtual 243, 3) := by decide +kernel
theorem dX6_withNode_153 : decode cX6_withNode 153 = .ok (.lstore 5, 2) := by decide +kernel
theorem dX6_withNode_155 : decode cX6_withNode 155 = .ok (.iinc 7 1, 3) := by decide +kernel
theorem dX6_withNode_158 : decode cX6_withNode 158 = .ok (.goto (-31), 3) := by decide +kernel
theorem dX6_withNode_161 : decode cX6_withNode 161 = .ok (.ldc2_w 222, 3) := by decide +kernel
theorem dX6_withNode_164 : decode cX6_withNode 164 = .ok (.lload 5, 2) := by decide +kernel
theorem dX6_withNode_166 : decode cX6_withNode 166 = .ok (.lmul, 1) := by decide +kernel
theorem dX6_withNode_167 : decode cX6_withNode 167 = .ok (.aload_n 0, 1) := by decide +kernel
theorem dX6_withNode_168 : decode cX6_withNode 168 = .ok (.getfield 19, 3) := by decide +kernel
theorem dX6_withNode_171 : decode cX6_withNode 171 = .ok (.aload_n 0, 1) := by decide +kernel
theorem dX6_withNode_172 : decode cX6_withNode 172 = .ok (.getfield 10, 3) := by decide +kernel
theorem dX6_withNode_175 : decode cX6_withNode 175 = .ok (.iload_n 3, 1) := by decide +kernel
theorem dX6_withNode_176 : decode cX6_withNode 176 = .ok (.invokevirtual 135, 3) := by decide +kernel
theorem dX6_withNode_179 : decode cX6_withNode 179 = .ok (.i2l, 1) := by decide +kernel
theorem dX6_withNode_180 : decode cX6_withNode 180 = .ok (.ladd, 1) := by decide +kernel
theorem dX6_withNode_181 : decode cX6_withNode 181 = .ok (.lreturn, 1) := by decide +kernel
theorem dX6_withEntry_0 : decode cX6_withEntry 0 = .ok (.lload_n 1, 1) := by decide +kernel
theorem dX6_withEntry_1 : decode cX6_withEntry 1 = .ok (.lstore 5, 2) := by decide +kernel
theorem dX6_withEntry_3 : decode cX6_withEntry 3 = .ok (.ldc2_w 222, 3) := by decide +kernel
theorem dX6_withEntry_6 : decode cX6_withEntry 6 = .ok (.lload 5, 2) := by decide +kernel
theorem dX6_withEntry_8 : decode cX6_withEntry 8 = .ok (.lmul, 1) := by decide +kernel
theorem dX6_withEntry_9 : decode cX6_withEntry 9 = .ok (.aload_n 3, 1) := by decide +kernel
theorem dX6_withEntry_10 : decode cX6_withEntry 10 = .ok (.getfield 191, 3) := by decide +kernel
theorem dX6_withEntry_13 : decode cX6_withEntry 13 = .ok (.iload 4, 2) := by decide +kernel
theorem dX6_withEntry_15 : decode cX6_withEntry 15 = .ok (.iconst (-1), 1) := by decide +kernel
theorem dX6_withEntry_16 : decode cX6_withEntry 16 = .ok (.invokevirtual 186, 3) := by decide +kernel
theorem dX6_withEntry_19 : decode cX6_withEntry 19 = .ok (.i2l, 1) := by decide +kernel
theorem dX6_withEntry_20 : decode cX6_withEntry 20 = .ok (.ladd, 1) := by decide +kernel
theorem dX6_withEntry_21 : decode cX6_withEntry 21 = .ok (.lstore 5, 2) := by decide +kernel
theorem dX6_withEntry_23 : decode cX6_withEntry 23 = .ok (.ldc2_w 222, 3) := by decide +kernel
theorem dX6_withEntry_26 : decode cX6_withEntry 26 = .ok (.lload 5, 2) := by decide +kernel
theorem dX6_withEntry_28 : decode cX6_withEntry 28 = .ok (.lmul, 1) := by decide +kernel
theorem dX6_withEntry_29 : decode cX6_withEntry 29 = .ok (.aload_n 3, 1) := by decide +kernel
theorem dX6_withEntry_30 : decode cX6_withEntry 30 = .ok (.getfield 194, 3) := by decide +kernel
theorem dX6_withEntry_33 : decode cX6_withEntry 33 = .ok (.iload 4, 2) := by decide +kernel
theorem dX6_withEntry_35 : decode cX6_withEntry 35 = .ok (.iconst (-1), 1) := by decide +kernel
theorem dX6_withEntry_36 : decode cX6_withEntry 36 = .ok (.invokevirtual 186, 3) := by decide +kernel
theorem dX6_withEntry_39 : decode cX6_withEntry 39 = .ok (.i2l, 1) := by decide +kernel
theorem dX6_withEntry_40 : decode cX6_withEntry 40 = .ok (.ladd, 1) := by decide +kernel
theorem dX6_withEntry_41 : decode cX6_withEntry 41 = .ok (.lstore 5, 2) := by decide +kernel
theorem dX6_withEntry_43 : decode cX6_withEntry 43 = .ok (.iconst 0, 1) := by decide +kernel
theorem dX6_withEntry_44 : decode cX6_withEntry 44 = .ok (.istore 7, 2) := by decide +kernel
theorem dX6_withEntry_46 : decode cX6_withEntry 46 = .ok (.iload 7, 2) := by decide +kernel
theorem dX6_withEntry_48 : decode cX6_withEntry 48 = .ok (.iconst 2, 1) := by decide +kernel
theorem dX6_withEntry_49 : decode cX6_withEntry 49 = .ok (.if_icmp .gt 27, 3) := by decide +kernel
theorem dX6_withEntry_52 : decode cX6_withEntry 52 = .ok (.ldc2_w 222, 3) := by decide +kernel
theorem dX6_withEntry_55 : decode cX6_withEntry 55 = .ok (.lload 5, 2) := by decide +kernel
theorem dX6_withEntry_57 : decode cX6_withEntry 57 = .ok (.lmul, 1) := by decide +kernel
theorem dX6_withEntry_58 : decode cX6_withEntry 58 = .ok (.aload_n 3, 1) := by decide +kernel
theorem dX6_withEntry_59 : decode cX6_withEntry 59 = .ok (.iload 4, 2) := by decide +kernel
theorem dX6_withEntry_61 : decode cX6_withEntry 61 = .ok (.iload 7, 2) := by decide +kernel
theorem dX6_withEntry_63 : decode cX6_withEntry 63 = .ok (.invokevirtual 197, 3) := by decide +kernel
theorem dX6_withEntry_66 : decode cX6_withEntry 66 = .ok (.i2l, 1) := by decide +kernel
theorem dX6_withEntry_67 : decode cX6_withEntry 67 = .ok (.ladd, 1) := by decide +kernel
theorem dX6_withEntry_68 : decode cX6_withEntry 68 = .ok (.lstore 5, 2) := by decide +kernel
theorem dX6_withEntry_70 : decode cX6_withEntry 70 = .ok (.iinc 7 1, 3) := by decide +kernel
theorem dX6_withEntry_73 : decode cX6_withEntry 73 = .ok (.goto (-27), 3) := by decide +kernel
theorem dX6_withEntry_76 : decode cX6_withEntry 76 = .ok (.lload 5, 2) := by decide +kernel
theorem dX6_withEntry_78 : decode cX6_withEntry 78 = .ok (.lreturn, 1) := by decide +kernel
theorem dX6_requireNode_0 : decode cX6_requireNode 0 = .ok (.iload_n 1, 1) := by decide +kernel
theorem dX6_requireNode_1 : decode cX6_requireNode 1 = .ok (.ifCond .lt 14, 3) := by decide +kernel
theorem dX6_requireNode_4 : decode cX6_requireNode 4 = .ok (.iload_n 1, 1) := by decide +kernel
theorem dX6_requireNode_5 : decode cX6_requireNode 5 = .ok (.aload_n 0, 1) := by decide +kernel
theorem dX6_requireNode_6 : decode cX6_requireNode 6 = .ok (.getfield 10, 3) := by decide +kernel
theorem dX6_requireNode_9 : decode cX6_requireNode 9 = .ok (.getfield 38, 3) := by decide +kernel
theorem dX6_requireNode_12 : decode cX6_requireNode 12 = .ok (.if_icmp .lt 13, 3) := by decide +kernel
theorem dX6_requireNode_15 : decode cX6_requireNode 15 = .ok (.new 247, 3) := by decide +kernel
theorem dX6_requireNode_18 : decode cX6_requireNode 18 = .ok (.dup, 1) := by decide +kernel
theorem dX6_requireNode_19 : decode cX6_requireNode 19 = .ok (.ldc 249, 2) := by decide +kernel
theorem dX6_requireNode_21 : decode cX6_requireNode 21 = .ok (.invokespecial 251, 3) := by decide +kernel
theorem dX6_requireNode_24 : decode cX6_requireNode 24 = .ok (.athrow, 1) := by decide +kernel
theorem dX6_requireNode_25 : decode cX6_requireNode 25 = .ok (.return_, 1) := by decide +kernel
theorem dX6_requireKey_0 : decode cX6_requireKey 0 = .ok (.aload_n 0, 1) := by decide +kernel
theorem dX6_requireKey_1 : decode cX6_requireKey 1 = .ok (.iload_n 1, 1) := by decide +kernel
theorem dX6_requireKey_2 : decode cX6_requireKey 2 = .ok (.ifCond .lt 14, 3) := by decide +kernel
theorem dX6_requireKey_5 : decode cX6_requireKey 5 = .ok (.iload_n 1, 1) := by decide +kernel
theorem dX6_requireKey_6 : decode cX6_requireKey 6 = .ok (.sipush 10000, 3) := by decide +kernel
theorem dX6_requireKey_9 : decode cX6_requireKey 9 = .ok (.if_icmp .ge 7, 3) := by decide +kernel
theorem dX6_requireKey_12 : decode cX6_requireKey 12 = .ok (.iconst 1, 1) := by decide +kernel
theorem dX6_requireKey_13 : decode cX6_requireKey 13 = .ok (.goto 4, 3) := by decide +kernel
theorem dX6_requireKey_16 : decode cX6_requireKey 16 = .ok (.iconst 0, 1) := by decide +kernel
theorem dX6_requireKey_17 : decode cX6_requireKey 17 = .ok (.invokevirtual 34, 3) := by decide +kernel
theorem dX6_requireKey_20 : decode cX6_requireKey 20 = .ok (.return_, 1) := by decide +kernel
theorem dX6_requireGoal_0 : decode cX6_requireGoal 0 = .ok (.aload_n 0, 1) := by decide +kernel
theorem dX6_requireGoal_1 : decode cX6_requireGoal 1 = .ok (.iload_n 1, 1) := by decide +kernel
theorem dX6_requireGoal_2 : decode cX6_requireGoal 2 = .ok (.ifCond .lt 14, 3) := by decide +kernel
theorem dX6_requireGoal_5 : decode cX6_requireGoal 5 = .ok (.iload_n 1, 1) := by decide +kernel
theorem dX6_requireGoal_6 : decode cX6_requireGoal 6 = .ok (.sipush 10000, 3) := by decide +kernel
theorem dX6_requireGoal_9 : decode cX6_requireGoal 9 = .ok (.if_icmp .gt 7, 3) := by decide +kernel
theorem dX6_requireGoal_12 : decode cX6_requireGoal 12 = .ok (.iconst 1, 1) := by decide +kernel
theorem dX6_requireGoal_13 : decode cX6_requireGoal 13 = .ok (.goto 4, 3) := by decide +kernel
theorem dX6_requireGoal_16 : decode cX6_requireGoal 16 = .ok (.iconst 0, 1) := by decide +kernel
theorem dX6_requireGoal_17 : decode cX6_requireGoal 17 = .ok (.invokevirtual 34, 3) := by decide +kernel
theorem dX6_requireGoal_20 : decode cX6_requireGoal 20 = .ok (.return_, 1) := by decide +kernel
theorem dX6_require_0 : decode cX6_require 0 = .ok (.iload_n 1, 1) := by decide +kernel
theorem dX6_require_1 : decode cX6_require 1 = .ok (.ifCond .ne 13, 3) := by decide +kernel
theorem dX6_require_4 : decode cX6_require 4 = .ok (.new 178, 3) := by decide +kernel
theorem dX6_require_7 : decode cX6_require 7 = .ok (.dup, 1) := by decide +kernel
theorem dX6_require_8 : decode cX6_require 8 = .ok (.ldc 252, 2) := by decide +kernel
theorem dX6_require_10 : decode cX6_require 10 = .ok (.invokespecial 182, 3) := by decide +kernel
theorem dX6_require_13 : decode cX6_require 13 = .ok (.athrow, 1) := by decide +kernel
theorem dX6_require_14 : decode cX6_require 14 = .ok (.return_, 1) := by decide +kernel
end
section
theorem dX7_init_0 : decode cX7_init 0 = .ok (.aload_n 0, 1) := by decide +kernel
theorem dX7_init_1 : decode cX7_init 1 = .ok (.invokespecial 1, 3) := by decide +kernel
theorem dX7_init_4 : decode cX7_init 4 = .ok (.aload_n 0, 1) := by decide +kernel
theorem dX7_init_5 : decode cX7_init 5 = .ok (.sipush 8183, 3) := by decide +kernel
theorem dX7_init_8 : decode cX7_init 8 = .ok (.newarray .int, 2) := by decide +kernel
theorem dX7_init_10 : decode cX7_init 10 = .ok (.putfield 7, 3) := by decide +kernel
theorem dX7_init_13 : decode cX7_init 13 = .ok (.aload_n 0, 1) := by decide +kernel
theorem dX7_init_14 : decode cX7_init 14 = .ok (.sipush 32732, 3) := by decide +kernel
theorem dX7_init_17 : decode cX7_init 17 = .ok (.newarray .int, 2) := by decide +kernel
theorem dX7_init_19 : decode cX7_init 19 = .ok (.putfield 13, 3) := by decide +kernel
theorem dX7_init_22 : decode cX7_init 22 = .ok (.aload_n 0, 1) := by decide +kernel
theorem dX7_init_23 : decode cX7_init 23 = .ok (.sipush 8183, 3) := by decide +kernel
theorem dX7_init_26 : decode cX7_init 26 = .ok (.newarray .int, 2) := by decide +kernel
theorem dX7_init_28 : decode cX7_init 28 = .ok (.putfield 16, 3) := by decide +kernel
theorem dX7_init_31 : decode cX7_init 31 = .ok (.aload_n 0, 1) := by decide +kernel
theorem dX7_init_32 : decode cX7_init 32 = .ok (.bipush 32, 2) := by decide +kernel
theorem dX7_init_34 : decode cX7_init 34 = .ok (.newarray .int, 2) := by decide +kernel
theorem dX7_init_36 : decode cX7_init 36 = .ok (.putfield 19, 3) := by decide +kernel
theorem dX7_init_39 : decode cX7_init 39 = .ok (.aload_n 0, 1) := by decide +kernel
theorem dX7_init_40 : decode cX7_init 40 = .ok (.bipush 15, 2) := by decide +kernel
theorem dX7_init_42 : decode cX7_init 42 = .ok (.newarray .int, 2) := by decide +kernel
theorem dX7_init_44 : decode cX7_init 44 = .ok (.putfield 22, 3) := by decide +kernel
theorem dX7_init_47 : decode cX7_init 47 = .ok (.aload_n 0, 1) := by decide +kernel
theorem dX7_init_48 : decode cX7_init 48 = .ok (.bipush 15, 2) := by decide +kernel
theorem dX7_init_50 : decode cX7_init 50 = .ok (.newarray .int, 2) := by decide +kernel
theorem dX7_init_52 : decode cX7_init 52 = .ok (.putfield 25, 3) := by decide +kernel
theorem dX7_init_55 : decode cX7_init 55 = .ok (.aload_n 0, 1) := by decide +kernel
theorem dX7_init_56 : decode cX7_init 56 = .ok (.bipush 15, 2) := by decide +kernel
theorem dX7_init_58 : decode cX7_init 58 = .ok (.newarray .int, 2) := by decide +kernel
theorem dX7_init_60 : decode cX7_init 60 = .ok (.putfield 28, 3) := by decide +kernel
theorem dX7_init_63 : decode cX7_init 63 = .ok (.aload_n 0, 1) := by decide +kernel
theorem dX7_init_64 : decode cX7_init 64 = .ok (.getfield 7, 3) := by decide +kernel
theorem dX7_init_67 : decode cX7_init 67 = .ok (.iconst 0, 1) := by decide +kernel
theorem dX7_init_68 : decode cX7_init 68 = .ok (.iconst 1, 1) := by decide +kernel
theorem dX7_init_69 : decode cX7_init 69 = .ok (.iastore, 1) := by decide +kernel
theorem dX7_init_70 : decode cX7_init 70 = .ok (.aload_n 0, 1) := by decide +kernel
theorem dX7_init_71 : decode cX7_init 71 = .ok (.getfield 7, 3) := by decide +kernel
theorem dX7_init_74 : decode cX7_init 74 = .ok (.iconst 1, 1) := by decide +kernel
theorem dX7_init_75 : decode cX7_init 75 = .ok (.iconst 4, 1) := by decide +kernel
theorem dX7_init_76 : decode cX7_init 76 = .ok (.iastore, 1) := by decide +kernel
theorem dX7_init_77 : decode cX7_init 77 = .ok (.aload_n 0, 1) := by decide +kernel
theorem dX7_init_78 : decode cX7_init 78 = .ok (.getfield 7, 3) := by decide +kernel
theorem dX7_init_81 : decode cX7_init 81 = .ok (.iconst 2, 1) := by decide +kernel
theorem dX7_init_82 : decode cX7_init 82 = .ok (.iconst 2, 1) := by decide +kernel
theorem dX7_init_83 : decode cX7_init 83 = .ok (.iastore, 1) := by decide +kernel
theorem dX7_init_84 : decode cX7_init 84 = .ok (.aload_n 0, 1) := by decide +kernel
theorem dX7_init_85 : decode cX7_init 85 = .ok (.getfield 7, 3) := by decide +kernel
theorem dX7_init_88 : decode cX7_init 88 = .ok (.bipush 8, 2) := by decide +kernel
theorem dX7_init_90 : decode cX7_init 90 = .ok (.iconst (-1), 1) := by decide +kernel
theorem dX7_init_91 : decode cX7_init 91 = .ok (.iastore, 1) := by decide +kernel
theorem dX7_init_92 : decode cX7_init 92 = .ok (.aload_n 0, 1) := by decide +kernel
theorem dX7_init_93 : decode cX7_init 93 = .ok (.getfield 7, 3) := by decide +kernel
theorem dX7_init_96 : decode cX7_init 96 = .ok (.bipush 9, 2) := by decide +kernel
theorem dX7_init_98 : decode cX7_init 98 = .ok (.iconst (-1), 1) := by decide +kernel
theorem dX7_init_99 : decode cX7_init 99 = .ok (.iastore, 1) := by decide +kernel
theorem dX7_init_100 : decode cX7_init 100 = .ok (.aload_n 0, 1) := by decide +kernel
theorem dX7_init_101 : decode cX7_init 101 = .ok (.getfield 7, 3) := by decide +kernel
theorem dX7_init_104 : decode cX7_init 104 = .ok (.bipush 10, 2) := by decide +kernel
theorem dX7_init_106 : decode cX7_init 106 = .ok (.iconst (-1), 1) := by decide +kernel
theorem dX7_init_107 : decode cX7_init 107 = .ok (.iastore, 1) := by decide +kernel
theorem dX7_init_108 : decode cX7_init 108 = .ok (.return_, 1) := by decide +kernel
theorem dX7_thrown_0 : decode cX7_thrown 0 = .ok (.aload_n 0, 1) := by decide +kernel
theorem dX7_thrown_1 : decode cX7_thrown 1 = .ok (.getfield 31, 3) := by decide +kernel
theorem dX7_thrown_4 : decode cX7_thrown 4 = .ok (.ireturn, 1) := by decide +kernel
theorem dX7_in_0 : decode cX7_in 0 = .ok (.iload_n 0, 1) := by decide +kernel
theorem dX7_in_1 : decode cX7_in 1 = .ok (.iload_n 1, 1) := by decide +kernel
theorem dX7_in_2 : decode cX7_in 2 = .ok (.if_icmp .lt 12, 3) := by decide +kernel
theorem dX7_in_5 : decode cX7_in 5 = .ok (.iload_n 0, 1) := by decide +kernel
theorem dX7_in_6 : decode cX7_in 6 = .ok (.iload_n 2, 1) := by decide +kernel
theorem dX7_in_7 : decode cX7_in 7 = .ok (.if_icmp .gt 7, 3) := by decide +kernel
theorem dX7_in_10 : decode cX7_in 10 = .ok (.iconst 1, 1) := by decide +kernel
theorem dX7_in_11 : decode cX7_in 11 = .ok (.goto 4, 3) := by decide +kernel
theorem dX7_in_14 : decode cX7_in 14 = .ok (.iconst 0, 1) := by decide +kernel
theorem dX7_in_15 : decode cX7_in 15 = .ok (.ireturn, 1) := by decide +kernel
theorem dX7_fails_0 : decode cX7_fails 0 = .ok (.aload_n 0, 1) := by decide +kernel
theorem dX7_fails_1 : decode cX7_fails 1 = .ok (.iload_n 1, 1) := by decide +kernel
theorem dX7_fails_2 : decode cX7_fails 2 = .ok (.putfield 31, 3) := by decide +kernel
theorem dX7_fails_5 : decode cX7_fails 5 = .ok (.iconst 0, 1) := by decide +kernel
theorem dX7_fails_6 : decode cX7_fails 6 = .ok (.ireturn, 1) := by decide +kernel
theorem dX7_tells_0 : decode cX7_tells 0 = .ok (.aload_n 0, 1) := by decide +kernel
theorem dX7_tells_1 : decode cX7_tells 1 = .ok (.iconst 0, 1) := by decide +kernel
theorem dX7_tells_2 : decode cX7_tells 2 = .ok (.putfield 31, 3) := by decide +kernel
theorem dX7_tells_5 : decode cX7_tells 5 = .ok (.iload_n 1, 1) := by decide +kernel
theorem dX7_tells_6 : decode cX7_tells 6 = .ok (.ireturn, 1) := by decide +kernel
theorem dX7_hold_0 : decode cX7_hold 0 = .ok (.iconst 0, 1) := by decide +kernel
theorem dX7_hold_1 : decode cX7_hold 1 = .ok (.istore_n 1, 1) := by decide +kernel
theorem dX7_hold_2 : decode cX7_hold 2 = .ok (.iload_n 1, 1) := by decide +kernel
theorem dX7_hold_3 : decode cX7_hold 3 = .ok (.sipush 8183, 3) := by decide +kernel
theorem dX7_hold_6 : decode cX7_hold 6 = .ok (.if_icmp .ge 21, 3) := by decide +kernel
theorem dX7_hold_9 : decode cX7_hold 9 = .ok (.aload_n 0, 1) := by decide +kernel
theorem dX7_hold_10 : decode cX7_hold 10 = .ok (.getfield 16, 3) := by decide +kernel
theorem dX7_hold_13 : decode cX7_hold 13 = .ok (.iload_n 1, 1) := by decide +kernel
theorem dX7_hold_14 : decode cX7_hold 14 = .ok (.aload_n 0, 1) := by decide +kernel
theorem dX7_hold_15 : decode cX7_hold 15 = .ok (.getfield 7, 3) := by decide +kernel
theorem dX7_hold_18 : decode cX7_hold 18 = .ok (.iload_n 1, 1) := by decide +kernel
theorem dX7_hold_19 : decode cX7_hold 19 = .ok (.iaload, 1) := by decide +kernel
theorem dX7_hold_20 : decode cX7_hold 20 = .ok (.iastore, 1) := by decide +kernel
theorem dX7_hold_21 : decode cX7_hold 21 = .ok (.iinc 1 1, 3) := by decide +kernel
theorem dX7_hold_24 : decode cX7_hold 24 = .ok (.goto (-22), 3) := by decide +kernel
theorem dX7_hold_27 : decode cX7_hold 27 = .ok (.return_, 1) := by decide +kernel
theorem dX7_ends_0 : decode cX7_ends 0 = .ok (.aload_n 0, 1) := by decide +kernel
theorem dX7_ends_1 : decode cX7_ends 1 = .ok (.getfield 35, 3) := by decide +kernel
theorem dX7_ends_4 : decode cX7_ends 4 = .ok (.iconst 4, 1) := by decide +kernel
theorem dX7_ends_5 : decode cX7_ends 5 = .ok (.if_icmp .ne 44, 3) := by decide +kernel
theorem dX7_ends_8 : decode cX7_ends 8 = .ok (.iconst 0, 1) := by decide +kernel
theorem dX7_ends_9 : decode cX7_ends 9 = .ok (.istore_n 2, 1) := by decide +kernel
theorem dX7_ends_10 : decode cX7_ends 10 = .ok (.iload_n 2, 1) := by decide +kernel
theorem dX7_ends_11 : decode cX7_ends 11 = .ok (.sipush 24549, 3) := by decide +kernel
theorem dX7_ends_14 : decode cX7_ends 14 = .ok (.if_icmp .ge 25, 3) := by decide +kernel
theorem dX7_ends_17 : decode cX7_ends 17 = .ok (.aload_n 0, 1) := by decide +kernel
theorem dX7_ends_18 : decode cX7_ends 18 = .ok (.getfield 13, 3) := by decide +kernel
theorem dX7_ends_21 : decode cX7_ends 21 = .ok (.iload_n 2, 1) := by decide +kernel
theorem dX7_ends_22 : decode cX7_ends 22 = .ok (.aload_n 0, 1) := by decide +kernel
theorem dX7_ends_23 : decode cX7_ends 23 = .ok (.getfield 13, 3) := by decide +kernel
theorem dX7_ends_26 : decode cX7_ends 26 = .ok (.iload_n 2, 1) := by decide +kernel
theorem dX7_ends_27 : decode cX7_ends 27 = .ok (.sipush 8183, 3) := by decide +kernel
theorem dX7_ends_30 : decode cX7_ends 30 = .ok (.iadd, 1) := by decide +kernel
theorem dX7_ends_31 : decode cX7_ends 31 = .ok (.iaload, 1) := by decide +kernel
theorem dX7_ends_32 : decode cX7_ends 32 = .ok (.iastore, 1) := by decide +kernel
theorem dX7_ends_33 : decode cX7_ends 33 = .ok (.iinc 2 1, 3) := by decide +kernel
theorem dX7_ends_36 : decode cX7_ends 36 = .ok (.goto (-26), 3) := by decide +kernel
theorem dX7_ends_39 : decode cX7_ends 39 = .ok (.aload_n 0, 1) := by decide +kernel
theorem dX7_ends_40 : decode cX7_ends 40 = .ok (.dup, 1) := by decide +kernel
theorem dX7_ends_41 : decode cX7_ends 41 = .ok (.getfield 35, 3) := by decide +kernel
theorem dX7_ends_44 : decode cX7_ends 44 = .ok (.iconst 1, 1) := by decide +kernel
theorem dX7_ends_45 : decode cX7_ends 45 = .ok (.isub, 1) := by decide +kernel
theorem dX7_ends_46 : decode cX7_ends 46 = .ok (.putfield 35, 3) := by decide +kernel
theorem dX7_ends_49 : decode cX7_ends 49 = .ok (.iconst 0, 1) := by decide +kernel
theorem dX7_ends_50 : decode cX7_ends 50 = .ok (.istore_n 2, 1) := by decide +kernel
theorem dX7_ends_51 : decode cX7_ends 51 = .ok (.iload_n 2, 1) := by decide +kernel
theorem dX7_ends_52 : decode cX7_ends 52 = .ok (.sipush 8183, 3) := by decide +kernel
theorem dX7_ends_55 : decode cX7_ends 55 = .ok (.if_icmp .ge 30, 3) := by decide +kernel
theorem dX7_ends_58 : decode cX7_ends 58 = .ok (.aload_n 0, 1) := by decide +kernel
theorem dX7_ends_59 : decode cX7_ends 59 = .ok (.getfield 13, 3) := by decide +kernel
theorem dX7_ends_62 : decode cX7_ends 62 = .ok (.sipush 8183, 3) := by decide +kernel
theorem dX7_ends_65 : decode cX7_ends 65 = .ok (.aload_n 0, 1) := by decide +kernel
theorem dX7_ends_66 : decode cX7_ends 66 = .ok (.getfield 35, 3) := by decide +kernel
theorem dX7_ends_69 : decode cX7_ends 69 = .ok (.imul, 1) := by decide +kernel
theorem dX7_ends_70 : decode cX7_ends 70 = .ok (.iload_n 2, 1) := by decide +kernel
theorem dX7_ends_71 : decode cX7_ends 71 = .ok (.iadd, 1) := by decide +kernel
theorem dX7_ends_72 : decode cX7_ends 72 = .ok (.aload_n 0, 1) := by decide +kernel
theorem dX7_ends_73 : decode cX7_ends 73 = .ok (.getfield 16, 3) := by decide +kernel
theorem dX7_ends_76 : decode cX7_ends 76 = .ok (.iload_n 2, 1) := by decide +kernel
theorem dX7_ends_77 : decode cX7_ends 77 = .ok (.iaload, 1) := by decide +kernel
theorem dX7_ends_78 : decode cX7_ends 78 = .ok (.iastore, 1) := by decide +kernel
theorem dX7_ends_79 : decode cX7_ends 79 = .ok (.iinc 2 1, 3) := by decide +kernel
theorem dX7_ends_82 : decode cX7_ends 82 = .ok (.goto (-31), 3) := by decide +kernel
theorem dX7_ends_85 : decode cX7_ends 85 = .ok (.aload_n 0, 1) := by decide +kernel
theorem dX7_ends_86 : decode cX7_ends 86 = .ok (.dup, 1) := by decide +kernel
theorem dX7_ends_87 : decode cX7_ends 87 = .ok (.getfield 35, 3) := by decide +kernel
theorem dX7_ends_90 : decode cX7_ends 90 = .ok (.iconst 1, 1) := by decide +kernel
theorem dX7_ends_91 : decode cX7_ends 91 = .ok (.iadd, 1) := by decide +kernel
theorem dX7_ends_92 : decode cX7_ends 92 = .ok (.putfield 35, 3) := by decide +kernel
theorem dX7_ends_95 : decode cX7_ends 95 = .ok (.aload_n 0, 1) := by decide +kernel
theorem dX7_ends_96 : decode cX7_ends 96 = .ok (.iload_n 1, 1) := by decide +kernel
theorem dX7_ends_97 : decode cX7_ends 97 = .ok (.invokevirtual 38, 3) := by decide +kernel
theorem dX7_ends_100 : decode cX7_ends 100 = .ok (.ireturn, 1) := by decide +kernel
theorem dX7_of_0 : decode cX7_of 0 = .ok (.aload_n 0, 1) := by decide +kernel
theorem dX7_of_1 : decode cX7_of 1 = .ok (.getfield 7, 3) := by decide +kernel
theorem dX7_of_4 : decode cX7_of 4 = .ok (.bipush 8, 2) := by decide +kernel
theorem dX7_of_6 : decode cX7_of 6 = .ok (.sipush 545, 3) := by decide +kernel
theorem dX7_of_9 : decode cX7_of 9 = .ok (.iload_n 1, 1) := by decide +kernel
theorem dX7_of_10 : decode cX7_of 10 = .ok (.imul, 1) := by decide +kernel
theorem dX7_of_11 : decode cX7_of 11 = .ok (.iadd, 1) := by decide +kernel
theorem dX7_of_12 : decode cX7_of 12 = .ok (.iload_n 2, 1) := by decide +kernel
theorem dX7_of_13 : decode cX7_of 13 = .ok (.iadd, 1) := by decide +kernel
theorem dX7_of_14 : decode cX7_of 14 = .ok (.iaload, 1) := by decide +kernel
theorem dX7_of_15 : decode cX7_of 15 = .ok (.ireturn, 1) := by decide +kernel
theorem dX7_puts_0 : decode cX7_puts 0 = .ok (.aload_n 0, 1) := by decide +kernel
theorem dX7_puts_1 : decode cX7_puts 1 = .ok (.getfield 7, 3) := by decide +kernel
theorem dX7_puts_4 : decode cX7_puts 4 = .ok (.bipush 8, 2) := by decide +kernel
theorem dX7_puts_6 : decode cX7_puts 6 = .ok (.sipush 545, 3) := by decide +kernel
theorem dX7_puts_9 : decode cX7_puts 9 = .ok (.iload_n 1, 1) := by decide +kernel
theorem dX7_puts_10 : decode cX7_puts 10 = .ok (.imul, 1) := by decide +kernel
theorem dX7_puts_11 : decode cX7_puts 11 = .ok (.iadd, 1) := by decide +kernel
theorem dX7_puts_12 : decode cX7_puts 12 = .ok (.iload_n 2, 1) := by decide +kernel
theorem dX7_puts_13 : decode cX7_puts 13 = .ok (.iadd, 1) := by decide +kernel
theorem dX7_puts_14 : decode cX7_puts 14 = .ok (.iload_n 3, 1) := by decide +kernel
theorem dX7_puts_15 : decode cX7_puts 15 = .ok (.iastore, 1) := by decide +kernel
theorem dX7_puts_16 : decode cX7_puts 16 = .ok (.return_, 1) := by decide +kernel
theorem dX7_isNode_0 : decode cX7_isNode 0 = .ok (.iload_n 1, 1) := by decide +kernel
theorem dX7_isNode_1 : decode cX7_isNode 1 = .ok (.iconst 0, 1) := by decide +kernel
theorem dX7_isNode_2 : decode cX7_isNode 2 = .ok (.aload_n 0, 1) := by decide +kernel
theorem dX7_isNode_3 : decode cX7_isNode 3 = .ok (.getfield 7, 3) := by decide +kernel
theorem dX7_isNode_6 : decode cX7_isNode 6 = .ok (.iconst 0, 1) := by decide +kernel
theorem dX7_isNode_7 : decode cX7_isNode 7 = .ok (.iaload, 1) := by decide +kernel
theorem dX7_isNode_8 : decode cX7_isNode 8 = .ok (.iconst 1, 1) := by decide +kernel
theorem dX7_isNode_9 : decode cX7_isNode 9 = .ok (.isub, 1) := by decide +kernel
theorem dX7_isNode_10 : decode cX7_isNode 10 = .ok (.invokestatic 42, 3) := by decide +kernel
theorem dX7_isNode_13 : decode cX7_isNode 13 = .ok (.ireturn, 1) := by decide +kernel
theorem dX7_isKey_0 : decode cX7_isKey 0 = .ok (.iload_n 0, 1) := by decide +kernel
theorem dX7_isKey_1 : decode cX7_isKey 1 = .ok (.iconst 0, 1) := by decide +kernel
theorem dX7_isKey_2 : decode cX7_isKey 2 = .ok (.sipush 9999, 3) := by decide +kernel
theorem dX7_isKey_5 : decode cX7_isKey 5 = .ok (.invokestatic 42, 3) := by decide +kernel
theorem dX7_isKey_8 : decode cX7_isKey 8 = .ok (.ireturn, 1) := by decide +kernel
theorem dX7_isSought_0 : decode cX7_isSought 0 = .ok (.iload_n 0, 1) := by decide +kernel
theorem dX7_isSought_1 : decode cX7_isSought 1 = .ok (.iconst 0, 1) := by decide +kernel
theorem dX7_isSought_2 : decode cX7_isSought 2 = .ok (.sipush 10000, 3) := by decide +kernel
theorem dX7_isSought_5 : decode cX7_isSought 5 = .ok (.invokestatic 42, 3) := by decide +kernel
theorem dX7_isSought_8 : decode cX7_isSought 8 = .ok (.ireturn, 1) := by decide +kernel
theorem dX7_marked_0 : decode cX7_marked 0 = .ok (.iconst 0, 1) := by decide +kernel
theorem dX7_marked_1 : decode cX7_marked 1 = .ok (.istore_n 2, 1) := by decide +kernel
theorem dX7_marked_2 : decode cX7_marked 2 = .ok (.iconst 0, 1) := by decide +kernel
theorem dX7_marked_3 : decode cX7_marked 3 = .ok (.istore_n 3, 1) := by decide +kernel
theorem dX7_marked_4 : decode cX7_marked 4 = .ok (.iload_n 3, 1) := by decide +kernel
theorem dX7_marked_5 : decode cX7_marked 5 = .ok (.aload_n 0, 1) := by decide +kernel
theorem dX7_marked_6 : decode cX7_marked 6 = .ok (.iload_n 1, 1) := by decide +kernel
theorem dX7_marked_7 : decode cX7_marked 7 = .ok (.iconst 3, 1) := by decide +kernel
theorem dX7_marked_8 : decode cX7_marked 8 = .ok (.invokevirtual 46, 3) := by decide +kernel
theorem dX7_marked_11 : decode cX7_marked 11 = .ok (.if_icmp .ge 21, 3) := by decide +kernel
theorem dX7_marked_14 : decode cX7_marked 14 = .ok (.iload_n 2, 1) := by decide +kernel
theorem dX7_marked_15 : decode cX7_marked 15 = .ok (.aload_n 0, 1) := by decide +kernel
theorem dX7_marked_16 : decode cX7_marked 16 = .ok (.iload_n 1, 1) := by decide +kernel
theorem dX7_marked_17 : decode cX7_marked 17 = .ok (.bipush 28, 2) := by decide +kernel
theorem dX7_marked_19 : decode cX7_marked 19 = .ok (.iload_n 3, 1) := by decide +kernel
theorem dX7_marked_20 : decode cX7_marked 20 = .ok (.iadd, 1) := by decide +kernel
theorem dX7_marked_21 : decode cX7_marked 21 = .ok (.invokevirtual 46, 3) := by decide +kernel
theorem dX7_marked_24 : decode cX7_marked 24 = .ok (.iadd, 1) := by decide +kernel
theorem dX7_marked_25 : decode cX7_marked 25 = .ok (.istore_n 2, 1) := by decide +kernel
theorem dX7_marked_26 : decode cX7_marked 26 = .ok (.iinc 3 1, 3) := by decide +kernel
theorem dX7_marked_29 : decode cX7_marked 29 = .ok (.goto (-25), 3) := by decide +kernel
theorem dX7_marked_32 : decode cX7_marked 32 = .ok (.iload_n 2, 1) := by decide +kernel
theorem dX7_marked_33 : decode cX7_marked 33 = .ok (.ireturn, 1) := by decide +kernel
theorem dX7_keys_0 : decode cX7_keys 0 = .ok (.aload_n 0, 1) := by decide +kernel
theorem dX7_keys_1 : decode cX7_keys 1 = .ok (.iload_n 1, 1) := by decide +kernel
theorem dX7_keys_2 : decode cX7_keys 2 = .ok (.iconst 3, 1) := by decide +kernel
theorem dX7_keys_3 : decode cX7_keys 3 = .ok (.invokevirtual 46, 3) := by decide +kernel
theorem dX7_keys_6 : decode cX7_keys 6 = .ok (.aload_n 0, 1) := by decide +kernel
theorem dX7_keys_7 : decode cX7_keys 7 = .ok (.iload_n 1, 1) := by decide +kernel
theorem dX7_keys_8 : decode cX7_keys 8 = .ok (.invokevirtual 50, 3) := by decide +kernel
theorem dX7_keys_11 : decode cX7_keys 11 = .ok (.isub, 1) := by decide +kernel
theorem dX7_keys_12 : decode cX7_keys 12 = .ok (.aload_n 0, 1) := by decide +kernel
theorem dX7_keys_13 : decode cX7_keys 13 = .ok (.iload_n 1, 1) := by decide +kernel
theorem dX7_keys_14 : decode cX7_keys 14 = .ok (.bipush 52, 2) := by decide +kernel
theorem dX7_keys_16 : decode cX7_keys 16 = .ok (.invokevirtual 46, 3) := by decide +kernel
theorem dX7_keys_19 : decode cX7_keys 19 = .ok (.iadd, 1) := by decide +kernel
theorem dX7_keys_20 : decode cX7_keys 20 = .ok (.ireturn, 1) := by decide +kernel
theorem dX7_inBase_0 : decode cX7_inBase 0 = .ok (.iconst (-1), 1) := by decide +kernel
theorem dX7_inBase_1 : decode cX7_inBase 1 = .ok (.istore_n 3, 1) := by decide +kernel
theorem dX7_inBase_2 : decode cX7_inBase 2 = .ok (.iconst 0, 1) := by decide +kernel
theorem dX7_inBase_3 : decode cX7_inBase 3 = .ok (.istore 4, 2) := by decide +kernel
theorem dX7_inBase_5 : decode cX7_inBase 5 = .ok (.iload 4, 2) := by decide +kernel
theorem dX7_inBase_7 : decode cX7_inBase 7 = .ok (.aload_n 0, 1) := by decide +kernel
theorem dX7_inBase_8 : decode cX7_inBase 8 = .ok (.iload_n 1, 1) := by decide +kernel
theorem dX7_inBase_9 : decode cX7_inBase 9 = .ok (.iconst 3, 1) := by decide +kernel
theorem dX7_inBase_10 : decode cX7_inBase 10 = .ok (.invokevirtual 46, 3) := by decide +kernel
theorem dX7_inBase_13 : decode cX7_inBase 13 = .ok (.if_icmp .ge 29, 3) := by decide +kernel
theorem dX7_inBase_16 : decode cX7_inBase 16 = .ok (.aload_n 0, 1) := by decide +kernel
theorem dX7_inBase_17 : decode cX7_inBase 17 = .ok (.iload_n 1, 1) := by decide +kernel
theorem dX7_inBase_18 : decode cX7_inBase 18 = .ok (.iconst 4, 1) := by decide +kernel
theorem dX7_inBase_19 : decode cX7_inBase 19 = .ok (.iload 4, 2) := by decide +kernel
theorem dX7_inBase_21 : decode cX7_inBase 21 = .ok (.iadd, 1) := by decide +kernel
theorem dX7_inBase_22 : decode cX7_inBase 22 = .ok (.invokevirtual 46, 3) := by decide +kernel
theorem dX7_inBase_25 : decode cX7_inBase 25 = .ok (.iload_n 2, 1) := by decide +kernel
theorem dX7_inBase_26 : decode cX7_inBase 26 = .ok (.if_icmp .ne 8, 3) := by decide +kernel
theorem dX7_inBase_29 : decode cX7_inBase 29 = .ok (.iload 4, 2) := by decide +kernel
theorem dX7_inBase_31 : decode cX7_inBase 31 = .ok (.goto 4, 3) := by decide +kernel
theorem dX7_inBase_34 : decode cX7_inBase 34 = .ok (.iload_n 3, 1) := by decide +kernel
theorem dX7_inBase_35 : decode cX7_inBase 35 = .ok (.istore_n 3, 1) := by decide +kernel
theorem dX7_inBase_36 : decode cX7_inBase 36 = .ok (.iinc 4 1, 3) := by decide +kernel
theorem dX7_inBase_39 : decode cX7_inBase 39 = .ok (.goto (-34), 3) := by decide +kernel
theorem dX7_inBase_42 : decode cX7_inBase 42 = .ok (.iload_n 3, 1) := by decide +kernel
theorem dX7_inBase_43 : decode cX7_inBase 43 = .ok (.ireturn, 1) := by decide +kernel
theorem dX7_inBuffer_0 : decode cX7_inBuffer 0 = .ok (.iconst (-1), 1) := by decide +kernel
theorem dX7_inBuffer_1 : decode cX7_inBuffer 1 = .ok (.istore_n 3, 1) := by decide +kernel
theorem dX7_inBuffer_2 : decode cX7_inBuffer 2 = .ok (.iconst 0, 1) := by decide +kernel
theorem dX7_inBuffer_3 : decode cX7_inBuffer 3 = .ok (.istore 4, 2) := by decide +kernel
theorem dX7_inBuffer_5 : decode cX7_inBuffer 5 = .ok (.iload 4, 2) := by decide +kernel
theorem dX7_inBuffer_7 : decode cX7_inBuffer 7 = .ok (.aload_n 0, 1) := by decide +kernel
theorem dX7_inBuffer_8 : decode cX7_inBuffer 8 = .ok (.iload_n 1, 1) := by decide +kernel
theorem dX7_inBuffer_9 : decode cX7_inBuffer 9 = .ok (.bipush 52, 2) := by decide +kernel
theorem dX7_inBuffer_11 : decode cX7_inBuffer 11 = .ok (.invokevirtual 46, 3) := by decide +kernel
theorem dX7_inBuffer_14 : decode cX7_inBuffer 14 = .ok (.if_icmp .ge 30, 3) := by decide +kernel
theorem dX7_inBuffer_17 : decode cX7_inBuffer 17 = .ok (.aload_n 0, 1) := by decide +kernel
theorem dX7_inBuffer_18 : decode cX7_inBuffer 18 = .ok (.iload_n 1, 1) := by decide +kernel
theorem dX7_inBuffer_19 : decode cX7_inBuffer 19 = .ok (.bipush 53, 2) := by decide +kernel
theorem dX7_inBuffer_21 : decode cX7_inBuffer 21 = .ok (.iload 4, 2) := by decide +kernel
theorem dX7_inBuffer_23 : decode cX7_inBuffer 23 = .ok (.iadd, 1) := by decide +kernel
theorem dX7_inBuffer_24 : decode cX7_inBuffer 24 = .ok (.invokevirtual 46, 3) := by decide +kernel
theorem dX7_inBuffer_27 : decode cX7_inBuffer 27 = .ok (.iload_n 2, 1) := by decide +kernel
theorem dX7_inBuffer_28 : decode cX7_inBuffer 28 = .ok (.if_icmp .ne 8, 3) := by decide +kernel
theorem dX7_inBuffer_31 : decode cX7_inBuffer 31 = .ok (.iload 4, 2) := by decide +kernel
theorem dX7_inBuffer_33 : decode cX7_inBuffer 33 = .ok (.goto 4, 3) := by decide +kernel
theorem dX7_inBuffer_36 : decode cX7_inBuffer 36 = .ok (.iload_n 3, 1) := by decide +kernel
theorem dX7_inBuffer_37 : decode cX7_inBuffer 37 = .ok (.istore_n 3, 1) := by decide +kernel
theorem dX7_inBuffer_38 : decode cX7_inBuffer 38 = .ok (.iinc 4 1, 3) := by decide +kernel
theorem dX7_inBuffer_41 : decode cX7_inBuffer 41 = .ok (.goto (-36), 3) := by decide +kernel
theorem dX7_inBuffer_44 : decode cX7_inBuffer 44 = .ok (.iload_n 3, 1) := by decide +kernel
theorem dX7_inBuffer_45 : decode cX7_inBuffer 45 = .ok (.ireturn, 1) := by decide +kernel
theorem dX7_has_0 : decode cX7_has 0 = .ok (.aload_n 0, 1) := by decide +kernel
theorem dX7_has_1 : decode cX7_has 1 = .ok (.iload_n 1, 1) := by decide +kernel
theorem dX7_has_2 : decode cX7_has 2 = .ok (.iload_n 2, 1) := by decide +kernel
theorem dX7_has_3 : decode cX7_has 3 = .ok (.invokevirtual 53, 3) := by decide +kernel
theorem dX7_has_6 : decode cX7_has 6 = .ok (.istore_n 3, 1) := by decide +kernel
theorem dX7_has_7 : decode cX7_has 7 = .ok (.iload_n 3, 1) := by decide +kernel
theorem dX7_has_8 : decode cX7_has 8 = .ok (.iconst (-1), 1) := by decide +kernel
theorem dX7_has_9 : decode cX7_has 9 = .ok (.if_icmp .eq 15, 3) := by decide +kernel
theorem dX7_has_12 : decode cX7_has 12 = .ok (.aload_n 0, 1) := by decide +kernel
theorem dX7_has_13 : decode cX7_has 13 = .ok (.iload_n 1, 1) := by decide +kernel
theorem dX7_has_14 : decode cX7_has 14 = .ok (.bipush 28, 2) := by decide +kernel
theorem dX7_has_16 : decode cX7_has 16 = .ok (.iload_n 3, 1) := by decide +kernel
theorem dX7_has_17 : decode cX7_has 17 = .ok (.iadd, 1) := by decide +kernel
theorem dX7_has_18 : decode cX7_has 18 = .ok (.invokevirtual 46, 3) := by decide +kernel
theorem dX7_has_21 : decode cX7_has 21 = .ok (.ifCond .eq 13, 3) := by decide +kernel
theorem dX7_has_24 : decode cX7_has 24 = .ok (.aload_n 0, 1) := by decide +kernel
theorem dX7_has_25 : decode cX7_has 25 = .ok (.iload_n 1, 1) := by decide +kernel
theorem dX7_has_26 : decode cX7_has 26 = .ok (.iload_n 2, 1) := by decide +kernel
theorem dX7_has_27 : decode cX7_has 27 = .ok (.invokevirtual 56, 3) := by decide +kernel
theorem dX7_has_30 : decode cX7_has 30 = .ok (.iconst (-1), 1) := by decide +kernel
theorem dX7_has_31 : decode cX7_has 31 = .ok (.if_icmp .eq 7, 3) := by decide +kernel
theorem dX7_has_34 : decode cX7_has 34 = .ok (.iconst 1, 1) := by decide +kernel
theorem dX7_has_35 : decode cX7_has 35 = .ok (.goto 4, 3) := by decide +kernel
theorem dX7_has_38 : decode cX7_has 38 = .ok (.iconst 0, 1) := by decide +kernel
theorem dX7_has_39 : decode cX7_has 39 = .ok (.ireturn, 1) := by decide +kernel
theorem dX7_next_0 : decode cX7_next 0 = .ok (.iconst (-1), 1) := by decide +kernel
theorem dX7_next_1 : decode cX7_next 1 = .ok (.istore_n 3, 1) := by decide +kernel
theorem dX7_next_2 : decode cX7_next 2 = .ok (.iconst 0, 1) := by decide +kernel
theorem dX7_next_3 : decode cX7_next 3 = .ok (.istore 4, 2) := by decide +kernel
theorem dX7_next_5 : decode cX7_next 5 = .ok (.iload 4, 2) := by decide +kernel
theorem dX7_next_7 : decode cX7_next 7 = .ok (.aload_n 0, 1) := by decide +kernel
theorem dX7_next_8 : decode cX7_next 8 = .ok (.iload_n 1, 1) := by decide +kernel
theorem dX7_next_9 : decode cX7_next 9 = .ok (.iconst 3, 1) := by decide +kernel
theorem dX7_next_10 : decode cX7_next 10 = .ok (.invokevirtual 46, 3) := by decide +kernel
theorem dX7_next_13 : decode cX7_next 13 = .ok (.if_icmp .ge 57, 3) := by decide +kernel
theorem dX7_next_16 : decode cX7_next 16 = .ok (.aload_n 0, 1) := by decide +kernel
theorem dX7_next_17 : decode cX7_next 17 = .ok (.iload_n 1, 1) := by decide +kernel
theorem dX7_next_18 : decode cX7_next 18 = .ok (.iconst 4, 1) := by decide +kernel
theorem dX7_next_19 : decode cX7_next 19 = .ok (.iload 4, 2) := by decide +kernel
theorem dX7_next_21 : decode cX7_next 21 = .ok (.iadd, 1) := by decide +kernel
theorem dX7_next_22 : decode cX7_next 22 = .ok (.invokevirtual 46, 3) := by decide +kernel
theorem dX7_next_25 : decode cX7_next 25 = .ok (.istore 5, 2) := by decide +kernel
theorem dX7_next_27 : decode cX7_next 27 = .ok (.aload_n 0, 1) := by decide +kernel
theorem dX7_next_28 : decode cX7_next 28 = .ok (.iload_n 1, 1) := by decide +kernel
theorem dX7_next_29 : decode cX7_next 29 = .ok (.bipush 28, 2) := by decide +kernel
theorem dX7_next_31 : decode cX7_next 31 = .ok (.iload 4, 2) := by decide +kernel
theorem dX7_next_33 : decode cX7_next 33 = .ok (.iadd, 1) := by decide +kernel
theorem dX7_next_34 : decode cX7_next 34 = .ok (.invokevirtual 46, 3) := by decide +kernel
theorem dX7_next_37 : decode cX7_next 37 = .ok (.ifCond .ne 25, 3) := by decide +kernel
theorem dX7_next_40 : decode cX7_next 40 = .ok (.iload 5, 2) := by decide +kernel
theorem dX7_next_42 : decode cX7_next 42 = .ok (.iload_n 2, 1) := by decide +kernel
theorem dX7_next_43 : decode cX7_next 43 = .ok (.if_icmp .lt 19, 3) := by decide +kernel
theorem dX7_next_46 : decode cX7_next 46 = .ok (.iload_n 3, 1) := by decide +kernel
theorem dX7_next_47 : decode cX7_next 47 = .ok (.iconst (-1), 1) := by decide +kernel
theorem dX7_next_48 : decode cX7_next 48 = .ok (.if_icmp .eq 9, 3) := by decide +kernel
theorem dX7_next_51 : decode cX7_next 51 = .ok (.iload 5, 2) := by decide +kernel
theorem dX7_next_53 : decode cX7_next 53 = .ok (.iload_n 3, 1) := by decide +kernel
theorem dX7_next_54 : decode cX7_next 54 = .ok (.if_icmp .ge 8, 3) := by decide +kernel
theorem dX7_next_57 : decode cX7_next 57 = .ok (.iload 5, 2) := by decide +kernel
theorem dX7_next_59 : decode cX7_next 59 = .ok (.goto 4, 3) := by decide +kernel
theorem dX7_next_62 : decode cX7_next 62 = .ok (.iload_n 3, 1) := by decide +kernel
theorem dX7_next_63 : decode cX7_next 63 = .ok (.istore_n 3, 1) := by decide +kernel
theorem dX7_next_64 : decode cX7_next 64 = .ok (.iinc 4 1, 3) := by decide +kernel
theorem dX7_next_67 : decode cX7_next 67 = .ok (.goto (-62), 3) := by decide +kernel
theorem dX7_next_70 : decode cX7_next 70 = .ok (.iconst 0, 1) := by decide +kernel
theorem dX7_next_71 : decode cX7_next 71 = .ok (.istore 4, 2) := by decide +kernel
theorem dX7_next_73 : decode cX7_next 73 = .ok (.iload 4, 2) := by decide +kernel
theorem dX7_next_75 : decode cX7_next 75 = .ok (.aload_n 0, 1) := by decide +kernel
theorem dX7_next_76 : decode cX7_next 76 = .ok (.iload_n 1, 1) := by decide +kernel
theorem dX7_next_77 : decode cX7_next 77 = .ok (.bipush 52, 2) := by decide +kernel
theorem dX7_next_79 : decode cX7_next 79 = .ok (.invokevirtual 46, 3) := by decide +kernel
theorem dX7_next_82 : decode cX7_next 82 = .ok (.if_icmp .ge 45, 3) := by decide +kernel
theorem dX7_next_85 : decode cX7_next 85 = .ok (.aload_n 0, 1) := by decide +kernel
theorem dX7_next_86 : decode cX7_next 86 = .ok (.iload_n 1, 1) := by decide +kernel
theorem dX7_next_87 : decode cX7_next 87 = .ok (.bipush 53, 2) := by decide +kernel
theorem dX7_next_89 : decode cX7_next 89 = .ok (.iload 4, 2) := by decide +kernel
theorem dX7_next_91 : decode cX7_next 91 = .ok (.iadd, 1) := by decide +kernel
theorem dX7_next_92 : decode cX7_next 92 = .ok (.invokevirtual 46, 3) := by decide +kernel
theorem dX7_next_95 : decode cX7_next 95 = .ok (.istore 5, 2) := by decide +kernel
theorem dX7_next_97 : decode cX7_next 97 = .ok (.iload 5, 2) := by decide +kernel
theorem dX7_next_99 : decode cX7_next 99 = .ok (.iload_n 2, 1) := by decide +kernel
theorem dX7_next_100 : decode cX7_next 100 = .ok (.if_icmp .lt 19, 3) := by decide +kernel
theorem dX7_next_103 : decode cX7_next 103 = .ok (.iload_n 3, 1) := by decide +kernel
theorem dX7_next_104 : decode cX7_next 104 = .ok (.iconst (-1), 1) := by decide +kernel
theorem dX7_next_105 : decode cX7_next 105 = .ok (.if_icmp .eq 9, 3) := by decide +kernel
theorem dX7_next_108 : decode cX7_next 108 = .ok (.iload 5, 2) := by decide +kernel
theorem dX7_next_110 : decode cX7_next 110 = .ok (.iload_n 3, 1) := by decide +kernel
theorem dX7_next_111 : decode cX7_next 111 = .ok (.if_icmp .ge 8, 3) := by decide +kernel
theorem dX7_next_114 : decode cX7_next 114 = .ok (.iload 5, 2) := by decide +kernel
theorem dX7_next_116 : decode cX7_next 116 = .ok (.goto 4, 3) := by decide +kernel
theorem dX7_next_119 : decode cX7_next 119 = .ok (.iload_n 3, 1) := by decide +kernel
theorem dX7_next_120 : decode cX7_next 120 = .ok (.istore_n 3, 1) := by decide +kernel
theorem dX7_next_121 : decode cX7_next 121 = .ok (.iinc 4 1, 3) := by decide +kernel
theorem dX7_next_124 : decode cX7_next 124 = .ok (.goto (-51), 3) := by decide +kernel
theorem dX7_next_127 : decode cX7_next 127 = .ok (.iload_n 3, 1) := by decide +kernel
theorem dX7_next_128 : decode cX7_next 128 = .ok (.ireturn, 1) := by decide +kernel
theorem dX7_enters_0 : decode cX7_enters 0 = .ok (.aload_n 0, 1) := by decide +kernel
theorem dX7_enters_1 : decode cX7_enters 1 = .ok (.iload_n 1, 1) := by decide +kernel
theorem dX7_enters_2 : decode cX7_enters 2 = .ok (.bipush 61, 2) := by decide +kernel
theorem dX7_enters_4 : decode cX7_enters 4 = .ok (.invokevirtual 46, 3) := by decide +kernel
theorem dX7_enters_7 : decode cX7_enters 7 = .ok (.istore 4, 2) := by decide +kernel
theorem dX7_enters_9 : decode cX7_enters 9 = .ok (.iload 4, 2) := by decide +kernel
theorem dX7_enters_11 : decode cX7_enters 11 = .ok (.ifCond .le 104, 3) := by decide +kernel
theorem dX7_enters_14 : decode cX7_enters 14 = .ok (.aload_n 0, 1) := by decide +kernel
theorem dX7_enters_15 : decode cX7_enters 15 = .ok (.iload_n 1, 1) := by decide +kernel
theorem dX7_enters_16 : decode cX7_enters 16 = .ok (.bipush 62, 2) := by decide +kernel
theorem dX7_enters_18 : decode cX7_enters 18 = .ok (.iload 4, 2) := by decide +kernel
theorem dX7_enters_20 : decode cX7_enters 20 = .ok (.iadd, 1) := by decide +kernel
theorem dX7_enters_21 : decode cX7_enters 21 = .ok (.iconst 1, 1) := by decide +kernel
theorem dX7_enters_22 : decode cX7_enters 22 = .ok (.isub, 1) := by decide +kernel
theorem dX7_enters_23 : decode cX7_enters 23 = .ok (.invokevirtual 46, 3) := by decide +kernel
theorem dX7_enters_26 : decode cX7_enters 26 = .ok (.iload_n 2, 1) := by decide +kernel
theorem dX7_enters_27 : decode cX7_enters 27 = .ok (.if_icmp .gt 36, 3) := by decide +kernel
theorem dX7_enters_30 : decode cX7_enters 30 = .ok (.aload_n 0, 1) := by decide +kernel
theorem dX7_enters_31 : decode cX7_enters 31 = .ok (.iload_n 1, 1) := by decide +kernel
theorem dX7_enters_32 : decode cX7_enters 32 = .ok (.bipush 62, 2) := by decide +kernel
theorem dX7_enters_34 : decode cX7_enters 34 = .ok (.iload 4, 2) := by decide +kernel
theorem dX7_enters_36 : decode cX7_enters 36 = .ok (.iadd, 1) := by decide +kernel
theorem dX7_enters_37 : decode cX7_enters 37 = .ok (.iconst 1, 1) := by decide +kernel
theorem dX7_enters_38 : decode cX7_enters 38 = .ok (.isub, 1) := by decide +kernel
theorem dX7_enters_39 : decode cX7_enters 39 = .ok (.invokevirtual 46, 3) := by decide +kernel
theorem dX7_enters_42 : decode cX7_enters 42 = .ok (.iload_n 2, 1) := by decide +kernel
theorem dX7_enters_43 : decode cX7_enters 43 = .ok (.if_icmp .ne 72, 3) := by decide +kernel
theorem dX7_enters_46 : decode cX7_enters 46 = .ok (.aload_n 0, 1) := by decide +kernel
theorem dX7_enters_47 : decode cX7_enters 47 = .ok (.iload_n 1, 1) := by decide +kernel
theorem dX7_enters_48 : decode cX7_enters 48 = .ok (.sipush 158, 3) := by decide +kernel
theorem dX7_enters_51 : decode cX7_enters 51 = .ok (.iload 4, 2) := by decide +kernel
theorem dX7_enters_53 : decode cX7_enters 53 = .ok (.iadd, 1) := by decide +kernel
theorem dX7_enters_54 : decode cX7_enters 54 = .ok (.iconst 1, 1) := by decide +kernel
theorem dX7_enters_55 : decode cX7_enters 55 = .ok (.isub, 1) := by decide +kernel
theorem dX7_enters_56 : decode cX7_enters 56 = .ok (.invokevirtual 46, 3) := by decide +kernel
theorem dX7_enters_59 : decode cX7_enters 59 = .ok (.iload_n 3, 1) := by decide +kernel
theorem dX7_enters_60 : decode cX7_enters 60 = .ok (.if_icmp .le 55, 3) := by decide +kernel
theorem dX7_enters_63 : decode cX7_enters 63 = .ok (.aload_n 0, 1) := by decide +kernel
theorem dX7_enters_64 : decode cX7_enters 64 = .ok (.iload_n 1, 1) := by decide +kernel
theorem dX7_enters_65 : decode cX7_enters 65 = .ok (.bipush 62, 2) := by decide +kernel
theorem dX7_enters_67 : decode cX7_enters 67 = .ok (.iload 4, 2) := by decide +kernel
theorem dX7_enters_69 : decode cX7_enters 69 = .ok (.iadd, 1) := by decide +kernel
theorem dX7_enters_70 : decode cX7_enters 70 = .ok (.aload_n 0, 1) := by decide +kernel
theorem dX7_enters_71 : decode cX7_enters 71 = .ok (.iload_n 1, 1) := by decide +kernel
theorem dX7_enters_72 : decode cX7_enters 72 = .ok (.bipush 62, 2) := by decide +kernel
theorem dX7_enters_74 : decode cX7_enters 74 = .ok (.iload 4, 2) := by decide +kernel
theorem dX7_enters_76 : decode cX7_enters 76 = .ok (.iadd, 1) := by decide +kernel
theorem dX7_enters_77 : decode cX7_enters 77 = .ok (.iconst 1, 1) := by decide +kernel
theorem dX7_enters_78 : decode cX7_enters 78 = .ok (.isub, 1) := by decide +kernel
theorem dX7_enters_79 : decode cX7_enters 79 = .ok (.invokevirtual 46, 3) := by decide +kernel
theorem dX7_enters_82 : decode cX7_enters 82 = .ok (.invokevirtual 59, 3) := by decide +kernel
theorem dX7_enters_85 : decode cX7_enters 85 = .ok (.aload_n 0, 1) := by decide +kernel
theorem dX7_enters_86 : decode cX7_enters 86 = .ok (.iload_n 1, 1) := by decide +kernel
theorem dX7_enters_87 : decode cX7_enters 87 = .ok (.sipush 158, 3) := by decide +kernel
theorem dX7_enters_90 : decode cX7_enters 90 = .ok (.iload 4, 2) := by decide +kernel
theorem dX7_enters_92 : decode cX7_enters 92 = .ok (.iadd, 1) := by decide +kernel
theorem dX7_enters_93 : decode cX7_enters 93 = .ok (.aload_n 0, 1) := by decide +kernel
theorem dX7_enters_94 : decode cX7_enters 94 = .ok (.iload_n 1, 1) := by decide +kernel
theorem dX7_enters_95 : decode cX7_enters 95 = .ok (.sipush 158, 3) := by decide +kernel
theorem dX7_enters_98 : decode cX7_enters 98 = .ok (.iload 4, 2) := by decide +kernel
theorem dX7_enters_100 : decode cX7_enters 100 = .ok (.iadd, 1) := by decide +kernel
theorem dX7_enters_101 : decode cX7_enters 101 = .ok (.iconst 1, 1) := by decide +kernel
theorem dX7_enters_102 : decode cX7_enters 102 = .ok (.isub, 1) := by decide +kernel
theorem dX7_enters_103 : decode cX7_enters 103 = .ok (.invokevirtual 46, 3) := by decide +kernel
theorem dX7_enters_106 : decode cX7_enters 106 = .ok (.invokevirtual 59, 3) := by decide +kernel
theorem dX7_enters_109 : decode cX7_enters 109 = .ok (.iinc 4 (-1), 3) := by decide +kernel
theorem dX7_enters_112 : decode cX7_enters 112 = .ok (.goto (-103), 3) := by decide +kernel
theorem dX7_enters_115 : decode cX7_enters 115 = .ok (.aload_n 0, 1) := by decide +kernel
theorem dX7_enters_116 : decode cX7_enters 116 = .ok (.iload_n 1, 1) := by decide +kernel
theorem dX7_enters_117 : decode cX7_enters 117 = .ok (.bipush 62, 2) := by decide +kernel
theorem dX7_enters_119 : decode cX7_enters 119 = .ok (.iload 4, 2) := by decide +kernel
theorem dX7_enters_121 : decode cX7_enters 121 = .ok (.iadd, 1) := by decide +kernel
theorem dX7_enters_122 : decode cX7_enters 122 = .ok (.iload_n 2, 1) := by decide +kernel
theorem dX7_enters_123 : decode cX7_enters 123 = .ok (.invokevirtual 59, 3) := by decide +kernel
theorem dX7_enters_126 : decode cX7_enters 126 = .ok (.aload_n 0, 1) := by decide +kernel
theorem dX7_enters_127 : decode cX7_enters 127 = .ok (.iload_n 1, 1) := by decide +kernel
theorem dX7_enters_128 : decode cX7_enters 128 = .ok (.sipush 158, 3) := by decide +kernel
theorem dX7_enters_131 : decode cX7_enters 131 = .ok (.iload 4, 2) := by decide +kernel
theorem dX7_enters_133 : decode cX7_enters 133 = .ok (.iadd, 1) := by decide +kernel
theorem dX7_enters_134 : decode cX7_enters 134 = .ok (.iload_n 3, 1) := by decide +kernel
theorem dX7_enters_135 : decode cX7_enters 135 = .ok (.invokevirtual 59, 3) := by decide +kernel
theorem dX7_enters_138 : decode cX7_enters 138 = .ok (.aload_n 0, 1) := by decide +kernel
theorem dX7_enters_139 : decode cX7_enters 139 = .ok (.iload_n 1, 1) := by decide +kernel
theorem dX7_enters_140 : decode cX7_enters 140 = .ok (.bipush 61, 2) := by decide +kernel
theorem dX7_enters_142 : decode cX7_enters 142 = .ok (.aload_n 0, 1) := by decide +kernel
theorem dX7_enters_143 : decode cX7_enters 143 = .ok (.iload_n 1, 1) := by decide +kernel
theorem dX7_enters_144 : decode cX7_enters 144 = .ok (.bipush 61, 2) := by decide +kernel
theorem dX7_enters_146 : decode cX7_enters 146 = .ok (.invokevirtual 46, 3) := by decide +kernel
theorem dX7_enters_149 : decode cX7_enters 149 = .ok (.iconst 1, 1) := by decide +kernel
theorem dX7_enters_150 : decode cX7_enters 150 = .ok (.iadd, 1) := by decide +kernel
theorem dX7_enters_151 : decode cX7_enters 151 = .ok (.invokevirtual 59, 3) := by decide +kernel
theorem dX7_enters_154 : decode cX7_enters 154 = .ok (.return_, 1) := by decide +kernel
theorem dX7_less_0 : decode cX7_less 0 = .ok (.iconst 0, 1) := by decide +kernel
theorem dX7_less_1 : decode cX7_less 1 = .ok (.istore 4, 2) := by decide +kernel
theorem dX7_less_3 : decode cX7_less 3 = .ok (.iload_n 2, 1) := by decide +kernel
theorem dX7_less_4 : decode cX7_less 4 = .ok (.ifCond .ne 7, 3) := by decide +kernel
theorem dX7_less_7 : decode cX7_less 7 = .ok (.iload_n 1, 1) := by decide +kernel
theorem dX7_less_8 : decode cX7_less 8 = .ok (.goto 11, 3) := by decide +kernel
theorem dX7_less_11 : decode cX7_less 11 = .ok (.aload_n 0, 1) := by decide +kernel
theorem dX7_less_12 : decode cX7_less 12 = .ok (.iload_n 1, 1) := by decide +kernel
theorem dX7_less_13 : decode cX7_less 13 = .ok (.iconst 0, 1) := by decide +kernel
theorem dX7_less_14 : decode cX7_less 14 = .ok (.iload_n 2, 1) := by decide +kernel
theorem dX7_less_15 : decode cX7_less 15 = .ok (.iadd, 1) := by decide +kernel
theorem dX7_less_16 : decode cX7_less 16 = .ok (.invokevirtual 46, 3) := by decide +kernel
theorem dX7_less_19 : decode cX7_less 19 = .ok (.istore 5, 2) := by decide +kernel
theorem dX7_less_21 : decode cX7_less 21 = .ok (.iconst 0, 1) := by decide +kernel
theorem dX7_less_22 : decode cX7_less 22 = .ok (.istore 6, 2) := by decide +kernel
theorem dX7_less_24 : decode cX7_less 24 = .ok (.iload 5, 2) := by decide +kernel
theorem dX7_less_26 : decode cX7_less 26 = .ok (.iconst (-1), 1) := by decide +kernel
theorem dX7_less_27 : decode cX7_less 27 = .ok (.if_icmp .eq 63, 3) := by decide +kernel
theorem dX7_less_30 : decode cX7_less 30 = .ok (.iload 6, 2) := by decide +kernel
theorem dX7_less_32 : decode cX7_less 32 = .ok (.aload_n 0, 1) := by decide +kernel
theorem dX7_less_33 : decode cX7_less 33 = .ok (.iload 5, 2) := by decide +kernel
theorem dX7_less_35 : decode cX7_less 35 = .ok (.iload_n 2, 1) := by decide +kernel
theorem dX7_less_36 : decode cX7_less 36 = .ok (.ifCond .ne 7, 3) := by decide +kernel
theorem dX7_less_39 : decode cX7_less 39 = .ok (.iconst 3, 1) := by decide +kernel
theorem dX7_less_40 : decode cX7_less 40 = .ok (.goto 5, 3) := by decide +kernel
theorem dX7_less_43 : decode cX7_less 43 = .ok (.bipush 61, 2) := by decide +kernel
theorem dX7_less_45 : decode cX7_less 45 = .ok (.invokevirtual 46, 3) := by decide +kernel
theorem dX7_less_48 : decode cX7_less 48 = .ok (.if_icmp .ge 42, 3) := by decide +kernel
theorem dX7_less_51 : decode cX7_less 51 = .ok (.iload 4, 2) := by decide +kernel
theorem dX7_less_53 : decode cX7_less 53 = .ok (.aload_n 0, 1) := by decide +kernel
theorem dX7_less_54 : decode cX7_less 54 = .ok (.iload 5, 2) := by decide +kernel
theorem dX7_less_56 : decode cX7_less 56 = .ok (.iload_n 2, 1) := by decide +kernel
theorem dX7_less_57 : decode cX7_less 57 = .ok (.ifCond .ne 7, 3) := by decide +kernel
theorem dX7_less_60 : decode cX7_less 60 = .ok (.iconst 4, 1) := by decide +kernel
theorem dX7_less_61 : decode cX7_less 61 = .ok (.goto 5, 3) := by decide +kernel
theorem dX7_less_64 : decode cX7_less 64 = .ok (.bipush 62, 2) := by decide +kernel
theorem dX7_less_66 : decode cX7_less 66 = .ok (.iload 6, 2) := by decide +kernel
theorem dX7_less_68 : decode cX7_less 68 = .ok (.iadd, 1) := by decide +kernel
theorem dX7_less_69 : decode cX7_less 69 = .ok (.invokevirtual 46, 3) := by decide +kernel
theorem dX7_less_72 : decode cX7_less 72 = .ok (.iload_n 3, 1) := by decide +kernel
theorem dX7_less_73 : decode cX7_less 73 = .ok (.if_icmp .ge 7, 3) := by decide +kernel
theorem dX7_less_76 : decode cX7_less 76 = .ok (.iconst 1, 1) := by decide +kernel
theorem dX7_less_77 : decode cX7_less 77 = .ok (.goto 4, 3) := by decide +kernel
theorem dX7_less_80 : decode cX7_less 80 = .ok (.iconst 0, 1) := by decide +kernel
theorem dX7_less_81 : decode cX7_less 81 = .ok (.iadd, 1) := by decide +kernel
theorem dX7_less_82 : decode cX7_less 82 = .ok (.istore 4, 2) := by decide +kernel
theorem dX7_less_84 : decode cX7_less 84 = .ok (.iinc 6 1, 3) := by decide +kernel
theorem dX7_less_87 : decode cX7_less 87 = .ok (.goto (-63), 3) := by decide +kernel
theorem dX7_less_90 : decode cX7_less 90 = .ok (.iload 4, 2) := by decide +kernel
theorem dX7_less_92 : decode cX7_less 92 = .ok (.ireturn, 1) := by decide +kernel
theorem dX7_builds_0 : decode cX7_builds 0 = .ok (.aload_n 0, 1) := by decide +kernel
theorem dX7_builds_1 : decode cX7_builds 1 = .ok (.iload_n 1, 1) := by decide +kernel
theorem dX7_builds_2 : decode cX7_builds 2 = .ok (.bipush 61, 2) := by decide +kernel
theorem dX7_builds_4 : decode cX7_builds 4 = .ok (.iconst 0, 1) := by decide +kernel
theorem dX7_builds_5 : decode cX7_builds 5 = .ok (.invokevirtual 59, 3) := by decide +kernel
theorem dX7_builds_8 : decode cX7_builds 8 = .ok (.iconst 0, 1) := by decide +kernel
theorem dX7_builds_9 : decode cX7_builds 9 = .ok (.istore_n 2, 1) := by decide +kernel
theorem dX7_builds_10 : decode cX7_builds 10 = .ok (.iload_n 2, 1) := by decide +kernel
theorem dX7_builds_11 : decode cX7_builds 11 = .ok (.aload_n 0, 1) := by decide +kernel
theorem dX7_builds_12 : decode cX7_builds 12 = .ok (.iload_n 1, 1) := by decide +kernel
theorem dX7_builds_13 : decode cX7_builds 13 = .ok (.iconst 3, 1) := by decide +kernel
theorem dX7_builds_14 : decode cX7_builds 14 = .ok (.invokevirtual 46, 3) := by decide +kernel
theorem dX7_builds_17 : decode cX7_builds 17 = .ok (.if_icmp .ge 23, 3) := by decide +kernel
theorem dX7_builds_20 : decode cX7_builds 20 = .ok (.aload_n 0, 1) := by decide +kernel
theorem dX7_builds_21 : decode cX7_builds 21 = .ok (.iload_n 1, 1) := by decide +kernel
theorem dX7_builds_22 : decode cX7_builds 22 = .ok (.aload_n 0, 1) := by decide +kernel
theorem dX7_builds_23 : decode cX7_builds 23 = .ok (.iload_n 1, 1) := by decide +kernel
theorem dX7_builds_24 : decode cX7_builds 24 = .ok (.iconst 4, 1) := by decide +kernel
theorem dX7_builds_25 : decode cX7_builds 25 = .ok (.iload_n 2, 1) := by decide +kernel
theorem dX7_builds_26 : decode cX7_builds 26 = .ok (.iadd, 1) := by decide +kernel
theorem dX7_builds_27 : decode cX7_builds 27 = .ok (.invokevirtual 46, 3) := by decide +kernel
theorem dX7_builds_30 : decode cX7_builds 30 = .ok (.iconst 0, 1) := by decide +kernel
theorem dX7_builds_31 : decode cX7_builds 31 = .ok (.invokevirtual 63, 3) := by decide +kernel
theorem dX7_builds_34 : decode cX7_builds 34 = .ok (.iinc 2 1, 3) := by decide +kernel
theorem dX7_builds_37 : decode cX7_builds 37 = .ok (.goto (-27), 3) := by decide +kernel
theorem dX7_builds_40 : decode cX7_builds 40 = .ok (.iconst 1, 1) := by decide +kernel
theorem dX7_builds_41 : decode cX7_builds 41 = .ok (.istore_n 2, 1) := by decide +kernel
theorem dX7_builds_42 : decode cX7_builds 42 = .ok (.iload_n 2, 1) := by decide +kernel
theorem dX7_builds_43 : decode cX7_builds 43 = .ok (.iconst 2, 1) := by decide +kernel
theorem dX7_builds_44 : decode cX7_builds 44 = .ok (.if_icmp .gt 75, 3) := by decide +kernel
theorem dX7_builds_47 : decode cX7_builds 47 = .ok (.aload_n 0, 1) := by decide +kernel
theorem dX7_builds_48 : decode cX7_builds 48 = .ok (.iload_n 1, 1) := by decide +kernel
theorem dX7_builds_49 : decode cX7_builds 49 = .ok (.iconst 0, 1) := by decide +kernel
theorem dX7_builds_50 : decode cX7_builds 50 = .ok (.iload_n 2, 1) := by decide +kernel
theorem dX7_builds_51 : decode cX7_builds 51 = .ok (.iadd, 1) := by decide +kernel
theorem dX7_builds_52 : decode cX7_builds 52 = .ok (.invokevirtual 46, 3) := by decide +kernel
theorem dX7_builds_55 : decode cX7_builds 55 = .ok (.istore_n 3, 1) := by decide +kernel
theorem dX7_builds_56 : decode cX7_builds 56 = .ok (.aload_n 0, 1) := by decide +kernel
theorem dX7_builds_57 : decode cX7_builds 57 = .ok (.getfield 7, 3) := by decide +kernel
theorem dX7_builds_60 : decode cX7_builds 60 = .ok (.iconst 2, 1) := by decide +kernel
theorem dX7_builds_61 : decode cX7_builds 61 = .ok (.iaload, 1) := by decide +kernel
theorem dX7_builds_62 : decode cX7_builds 62 = .ok (.iconst 1, 1) := by decide +kernel
theorem dX7_builds_63 : decode cX7_builds 63 = .ok (.isub, 1) := by decide +kernel
theorem dX7_builds_64 : decode cX7_builds 64 = .ok (.istore 4, 2) := by decide +kernel
theorem dX7_builds_66 : decode cX7_builds 66 = .ok (.iload_n 3, 1) := by decide +kernel
theorem dX7_builds_67 : decode cX7_builds 67 = .ok (.iconst (-1), 1) := by decide +kernel
theorem dX7_builds_68 : decode cX7_builds 68 = .ok (.if_icmp .eq 45, 3) := by decide +kernel
theorem dX7_builds_71 : decode cX7_builds 71 = .ok (.iload 4, 2) := by decide +kernel
theorem dX7_builds_73 : decode cX7_builds 73 = .ok (.aload_n 0, 1) := by decide +kernel
theorem dX7_builds_74 : decode cX7_builds 74 = .ok (.iload_n 3, 1) := by decide +kernel
theorem dX7_builds_75 : decode cX7_builds 75 = .ok (.bipush 61, 2) := by decide +kernel
theorem dX7_builds_77 : decode cX7_builds 77 = .ok (.invokevirtual 46, 3) := by decide +kernel
theorem dX7_builds_80 : decode cX7_builds 80 = .ok (.if_icmp .ge 33, 3) := by decide +kernel
theorem dX7_builds_83 : decode cX7_builds 83 = .ok (.aload_n 0, 1) := by decide +kernel
theorem dX7_builds_84 : decode cX7_builds 84 = .ok (.iload_n 1, 1) := by decide +kernel
theorem dX7_builds_85 : decode cX7_builds 85 = .ok (.aload_n 0, 1) := by decide +kernel
theorem dX7_builds_86 : decode cX7_builds 86 = .ok (.iload_n 3, 1) := by decide +kernel
theorem dX7_builds_87 : decode cX7_builds 87 = .ok (.bipush 62, 2) := by decide +kernel
theorem dX7_builds_89 : decode cX7_builds 89 = .ok (.iload 4, 2) := by decide +kernel
theorem dX7_builds_91 : decode cX7_builds 91 = .ok (.iadd, 1) := by decide +kernel
theorem dX7_builds_92 : decode cX7_builds 92 = .ok (.invokevirtual 46, 3) := by decide +kernel
theorem dX7_builds_95 : decode cX7_builds 95 = .ok (.iload_n 2, 1) := by decide +kernel
theorem dX7_builds_96 : decode cX7_builds 96 = .ok (.invokevirtual 63, 3) := by decide +kernel
theorem dX7_builds_99 : decode cX7_builds 99 = .ok (.iload 4, 2) := by decide +kernel
theorem dX7_builds_101 : decode cX7_builds 101 = .ok (.aload_n 0, 1) := by decide +kernel
theorem dX7_builds_102 : decode cX7_builds 102 = .ok (.getfield 7, 3) := by decide +kernel
theorem dX7_builds_105 : decode cX7_builds 105 = .ok (.iconst 2, 1) := by decide +kernel
theorem dX7_builds_106 : decode cX7_builds 106 = .ok (.iaload, 1) := by decide +kernel
theorem dX7_builds_107 : decode cX7_builds 107 = .ok (.iadd, 1) := by decide +kernel
theorem dX7_builds_108 : decode cX7_builds 108 = .ok (.istore 4, 2) := by decide +kernel
theorem dX7_builds_110 : decode cX7_builds 110 = .ok (.goto (-44), 3) := by decide +kernel
theorem dX7_builds_113 : decode cX7_builds 113 = .ok (.iinc 2 1, 3) := by decide +kernel
theorem dX7_builds_116 : decode cX7_builds 116 = .ok (.goto (-74), 3) := by decide +kernel
theorem dX7_builds_119 : decode cX7_builds 119 = .ok (.aload_n 0, 1) := by decide +kernel
theorem dX7_builds_120 : decode cX7_builds 120 = .ok (.iload_n 1, 1) := by decide +kernel
theorem dX7_builds_121 : decode cX7_builds 121 = .ok (.bipush 61, 2) := by decide +kernel
theorem dX7_builds_123 : decode cX7_builds 123 = .ok (.invokevirtual 46, 3) := by decide +kernel
theorem dX7_builds_126 : decode cX7_builds 126 = .ok (.istore_n 2, 1) := by decide +kernel
theorem dX7_builds_127 : decode cX7_builds 127 = .ok (.iconst 0, 1) := by decide +kernel
theorem dX7_builds_128 : decode cX7_builds 128 = .ok (.istore_n 3, 1) := by decide +kernel
theorem dX7_builds_129 : decode cX7_builds 129 = .ok (.iload_n 3, 1) := by decide +kernel
theorem dX7_builds_130 : decode cX7_builds 130 = .ok (.iload_n 2, 1) := by decide +kernel
theorem dX7_builds_131 : decode cX7_builds 131 = .ok (.if_icmp .gt 66, 3) := by decide +kernel
theorem dX7_builds_134 : decode cX7_builds 134 = .ok (.iconst 0, 1) := by decide +kernel
theorem dX7_builds_135 : decode cX7_builds 135 = .ok (.istore 4, 2) := by decide +kernel
theorem dX7_builds_137 : decode cX7_builds 137 = .ok (.iload 4, 2) := by decide +kernel
theorem dX7_builds_139 : decode cX7_builds 139 = .ok (.iconst 2, 1) := by decide +kernel
theorem dX7_builds_140 : decode cX7_builds 140 = .ok (.if_icmp .gt 51, 3) := by decide +kernel
theorem dX7_builds_143 : decode cX7_builds 143 = .ok (.aload_n 0, 1) := by decide +kernel
theorem dX7_builds_144 : decode cX7_builds 144 = .ok (.iload_n 1, 1) := by decide +kernel
theorem dX7_builds_145 : decode cX7_builds 145 = .ok (.sipush 254, 3) := by decide +kernel
theorem dX7_builds_148 : decode cX7_builds 148 = .ok (.iconst 3, 1) := by decide +kernel
theorem dX7_builds_149 : decode cX7_builds 149 = .ok (.iload_n 3, 1) := by decide +kernel
theorem dX7_builds_150 : decode cX7_builds 150 = .ok (.imul, 1) := by decide +kernel
theorem dX7_builds_151 : decode cX7_builds 151 = .ok (.iadd, 1) := by decide +kernel
theorem dX7_builds_152 : decode cX7_builds 152 = .ok (.iload 4, 2) := by decide +kernel
theorem dX7_builds_154 : decode cX7_builds 154 = .ok (.iadd, 1) := by decide +kernel
theorem dX7_builds_155 : decode cX7_builds 155 = .ok (.aload_n 0, 1) := by decide +kernel
theorem dX7_builds_156 : decode cX7_builds 156 = .ok (.iload_n 1, 1) := by decide +kernel
theorem dX7_builds_157 : decode cX7_builds 157 = .ok (.iload 4, 2) := by decide +kernel
theorem dX7_builds_159 : decode cX7_builds 159 = .ok (.iload_n 3, 1) := by decide +kernel
theorem dX7_builds_160 : decode cX7_builds 160 = .ok (.iload_n 2, 1) := by decide +kernel
theorem dX7_builds_161 : decode cX7_builds 161 = .ok (.if_icmp .ge 15, 3) := by decide +kernel
theorem dX7_builds_164 : decode cX7_builds 164 = .ok (.aload_n 0, 1) := by decide +kernel
theorem dX7_builds_165 : decode cX7_builds 165 = .ok (.iload_n 1, 1) := by decide +kernel
theorem dX7_builds_166 : decode cX7_builds 166 = .ok (.bipush 62, 2) := by decide +kernel
theorem dX7_builds_168 : decode cX7_builds 168 = .ok (.iload_n 3, 1) := by decide +kernel
theorem dX7_builds_169 : decode cX7_builds 169 = .ok (.iadd, 1) := by decide +kernel
theorem dX7_builds_170 : decode cX7_builds 170 = .ok (.invokevirtual 46, 3) := by decide +kernel
theorem dX7_builds_173 : decode cX7_builds 173 = .ok (.goto 6, 3) := by decide +kernel
theorem dX7_builds_176 : decode cX7_builds 176 = .ok (.sipush 10000, 3) := by decide +kernel
theorem dX7_builds_179 : decode cX7_builds 179 = .ok (.invokevirtual 66, 3) := by decide +kernel
theorem dX7_builds_182 : decode cX7_builds 182 = .ok (.invokevirtual 59, 3) := by decide +kernel
theorem dX7_builds_185 : decode cX7_builds 185 = .ok (.iinc 4 1, 3) := by decide +kernel
theorem dX7_builds_188 : decode cX7_builds 188 = .ok (.goto (-51), 3) := by decide +kernel
theorem dX7_builds_191 : decode cX7_builds 191 = .ok (.iinc 3 1, 3) := by decide +kernel
theorem dX7_builds_194 : decode cX7_builds 194 = .ok (.goto (-65), 3) := by decide +kernel
theorem dX7_builds_197 : decode cX7_builds 197 = .ok (.aload_n 0, 1) := by decide +kernel
theorem dX7_builds_198 : decode cX7_builds 198 = .ok (.getfield 7, 3) := by decide +kernel
theorem dX7_builds_201 : decode cX7_builds 201 = .ok (.iconst 5, 1) := by decide +kernel
theorem dX7_builds_202 : decode cX7_builds 202 = .ok (.dup2, 1) := by decide +kernel
theorem dX7_builds_203 : decode cX7_builds 203 = .ok (.iaload, 1) := by decide +kernel
theorem dX7_builds_204 : decode cX7_builds 204 = .ok (.iconst 1, 1) := by decide +kernel
theorem dX7_builds_205 : decode cX7_builds 205 = .ok (.iadd, 1) := by decide +kernel
theorem dX7_builds_206 : decode cX7_builds 206 = .ok (.iastore, 1) := by decide +kernel
theorem dX7_builds_207 : decode cX7_builds 207 = .ok (.aload_n 0, 1) := by decide +kernel
theorem dX7_builds_208 : decode cX7_builds 208 = .ok (.getfield 7, 3) := by decide +kernel
theorem dX7_builds_211 : decode cX7_builds 211 = .ok (.bipush 6, 2) := by decide +kernel
theorem dX7_builds_213 : decode cX7_builds 213 = .ok (.dup2, 1) := by decide +kernel
theorem dX7_builds_214 : decode cX7_builds 214 = .ok (.iaload, 1) := by decide +kernel
theorem dX7_builds_215 : decode cX7_builds 215 = .ok (.iload_n 2, 1) := by decide +kernel
theorem dX7_builds_216 : decode cX7_builds 216 = .ok (.iadd, 1) := by decide +kernel
theorem dX7_builds_217 : decode cX7_builds 217 = .ok (.iastore, 1) := by decide +kernel
theorem dX7_builds_218 : decode cX7_builds 218 = .ok (.return_, 1) := by decide +kernel
theorem dX7_buildsUp_0 : decode cX7_buildsUp 0 = .ok (.iconst 0, 1) := by decide +kernel
theorem dX7_buildsUp_1 : decode cX7_buildsUp 1 = .ok (.istore_n 2, 1) := by decide +kernel
theorem dX7_buildsUp_2 : decode cX7_buildsUp 2 = .ok (.iload_n 1, 1) := by decide +kernel
theorem dX7_buildsUp_3 : decode cX7_buildsUp 3 = .ok (.istore_n 3, 1) := by decide +kernel
theorem dX7_buildsUp_4 : decode cX7_buildsUp 4 = .ok (.iload_n 3, 1) := by decide +kernel
theorem dX7_buildsUp_5 : decode cX7_buildsUp 5 = .ok (.iconst (-1), 1) := by decide +kernel
theorem dX7_buildsUp_6 : decode cX7_buildsUp 6 = .ok (.if_icmp .eq 28, 3) := by decide +kernel
theorem dX7_buildsUp_9 : decode cX7_buildsUp 9 = .ok (.aload_n 0, 1) := by decide +kernel
theorem dX7_buildsUp_10 : decode cX7_buildsUp 10 = .ok (.iload_n 3, 1) := by decide +kernel
theorem dX7_buildsUp_11 : decode cX7_buildsUp 11 = .ok (.invokevirtual 70, 3) := by decide +kernel
theorem dX7_buildsUp_14 : decode cX7_buildsUp 14 = .ok (.iload_n 2, 1) := by decide +kernel
theorem dX7_buildsUp_15 : decode cX7_buildsUp 15 = .ok (.aload_n 0, 1) := by decide +kernel
theorem dX7_buildsUp_16 : decode cX7_buildsUp 16 = .ok (.iload_n 3, 1) := by decide +kernel
theorem dX7_buildsUp_17 : decode cX7_buildsUp 17 = .ok (.bipush 61, 2) := by decide +kernel
theorem dX7_buildsUp_19 : decode cX7_buildsUp 19 = .ok (.invokevirtual 46, 3) := by decide +kernel
theorem dX7_buildsUp_22 : decode cX7_buildsUp 22 = .ok (.iadd, 1) := by decide +kernel
theorem dX7_buildsUp_23 : decode cX7_buildsUp 23 = .ok (.istore_n 2, 1) := by decide +kernel
theorem dX7_buildsUp_24 : decode cX7_buildsUp 24 = .ok (.aload_n 0, 1) := by decide +kernel
theorem dX7_buildsUp_25 : decode cX7_buildsUp 25 = .ok (.iload_n 3, 1) := by decide +kernel
theorem dX7_buildsUp_26 : decode cX7_buildsUp 26 = .ok (.iconst 0, 1) := by decide +kernel
theorem dX7_buildsUp_27 : decode cX7_buildsUp 27 = .ok (.invokevirtual 46, 3) := by decide +kernel
theorem dX7_buildsUp_30 : decode cX7_buildsUp 30 = .ok (.istore_n 3, 1) := by decide +kernel
theorem dX7_buildsUp_31 : decode cX7_buildsUp 31 = .ok (.goto (-27), 3) := by decide +kernel
theorem dX7_buildsUp_34 : decode cX7_buildsUp 34 = .ok (.iload_n 2, 1) := by decide +kernel
theorem dX7_buildsUp_35 : decode cX7_buildsUp 35 = .ok (.ireturn, 1) := by decide +kernel
theorem dX7_rebuilds_0 : decode cX7_rebuilds 0 = .ok (.iconst 0, 1) := by decide +kernel
theorem dX7_rebuilds_1 : decode cX7_rebuilds 1 = .ok (.istore_n 2, 1) := by decide +kernel
theorem dX7_rebuilds_2 : decode cX7_rebuilds 2 = .ok (.aload_n 0, 1) := by decide +kernel
theorem dX7_rebuilds_3 : decode cX7_rebuilds 3 = .ok (.iload_n 1, 1) := by decide +kernel
theorem dX7_rebuilds_4 : decode cX7_rebuilds 4 = .ok (.iconst 0, 1) := by decide +kernel
theorem dX7_rebuilds_5 : decode cX7_rebuilds 5 = .ok (.invokevirtual 74, 3) := by decide +kernel
theorem dX7_rebuilds_8 : decode cX7_rebuilds 8 = .ok (.istore_n 3, 1) := by decide +kernel
theorem dX7_rebuilds_9 : decode cX7_rebuilds 9 = .ok (.iload_n 3, 1) := by decide +kernel
theorem dX7_rebuilds_10 : decode cX7_rebuilds 10 = .ok (.iconst (-1), 1) := by decide +kernel
theorem dX7_rebuilds_11 : decode cX7_rebuilds 11 = .ok (.if_icmp .eq 25, 3) := by decide +kernel
theorem dX7_rebuilds_14 : decode cX7_rebuilds 14 = .ok (.aload_n 0, 1) := by decide +kernel
theorem dX7_rebuilds_15 : decode cX7_rebuilds 15 = .ok (.getfield 19, 3) := by decide +kernel
theorem dX7_rebuilds_18 : decode cX7_rebuilds 18 = .ok (.iload_n 2, 1) := by decide +kernel
theorem dX7_rebuilds_19 : decode cX7_rebuilds 19 = .ok (.iload_n 3, 1) := by decide +kernel
theorem dX7_rebuilds_20 : decode cX7_rebuilds 20 = .ok (.iastore, 1) := by decide +kernel
theorem dX7_rebuilds_21 : decode cX7_rebuilds 21 = .ok (.iinc 2 1, 3) := by decide +kernel
theorem dX7_rebuilds_24 : decode cX7_rebuilds 24 = .ok (.aload_n 0, 1) := by decide +kernel
theorem dX7_rebuilds_25 : decode cX7_rebuilds 25 = .ok (.iload_n 1, 1) := by decide +kernel
theorem dX7_rebuilds_26 : decode cX7_rebuilds 26 = .ok (.iload_n 3, 1) := by decide +kernel
theorem dX7_rebuilds_27 : decode cX7_rebuilds 27 = .ok (.iconst 1, 1) := by decide +kernel
theorem dX7_rebuilds_28 : decode cX7_rebuilds 28 = .ok (.iadd, 1) := by decide +kernel
theorem dX7_rebuilds_29 : decode cX7_rebuilds 29 = .ok (.invokevirtual 74, 3) := by decide +kernel
theorem dX7_rebuilds_32 : decode cX7_rebuilds 32 = .ok (.istore_n 3, 1) := by decide +kernel
theorem dX7_rebuilds_33 : decode cX7_rebuilds 33 = .ok (.goto (-24), 3) := by decide +kernel
theorem dX7_rebuilds_36 : decode cX7_rebuilds 36 = .ok (.aload_n 0, 1) := by decide +kernel
theorem dX7_rebuilds_37 : decode cX7_rebuilds 37 = .ok (.iload_n 1, 1) := by decide +kernel
theorem dX7_rebuilds_38 : decode cX7_rebuilds 38 = .ok (.iconst 3, 1) := by decide +kernel
theorem dX7_rebuilds_39 : decode cX7_rebuilds 39 = .ok (.iload_n 2, 1) := by decide +kernel
theorem dX7_rebuilds_40 : decode cX7_rebuilds 40 = .ok (.invokevirtual 59, 3) := by decide +kernel
theorem dX7_rebuilds_43 : decode cX7_rebuilds 43 = .ok (.aload_n 0, 1) := by decide +kernel
theorem dX7_rebuilds_44 : decode cX7_rebuilds 44 = .ok (.iload_n 1, 1) := by decide +kernel
theorem dX7_rebuilds_45 : decode cX7_rebuilds 45 = .ok (.bipush 52, 2) := by decide +kernel
theorem dX7_rebuilds_47 : decode cX7_rebuilds 47 = .ok (.iconst 0, 1) := by decide +kernel
theorem dX7_rebuilds_48 : decode cX7_rebuilds 48 = .ok (.invokevirtual 59, 3) := by decide +kernel
theorem dX7_rebuilds_51 : decode cX7_rebuilds 51 = .ok (.iconst 0, 1) := by decide +kernel
theorem dX7_rebuilds_52 : decode cX7_rebuilds 52 = .ok (.istore_n 3, 1) := by decide +kernel
theorem dX7_rebuilds_53 : decode cX7_rebuilds 53 = .ok (.iload_n 3, 1) := by decide +kernel
theorem dX7_rebuilds_54 : decode cX7_rebuilds 54 = .ok (.bipush 24, 2) := by decide +kernel
theorem dX7_rebuilds_56 : decode cX7_rebuilds 56 = .ok (.if_icmp .ge 42, 3) := by decide +kernel
theorem dX7_rebuilds_59 : decode cX7_rebuilds 59 = .ok (.aload_n 0, 1) := by decide +kernel
theorem dX7_rebuilds_60 : decode cX7_rebuilds 60 = .ok (.iload_n 1, 1) := by decide +kernel
theorem dX7_rebuilds_61 : decode cX7_rebuilds 61 = .ok (.iconst 4, 1) := by decide +kernel
theorem dX7_rebuilds_62 : decode cX7_rebuilds 62 = .ok (.iload_n 3, 1) := by decide +kernel
theorem dX7_rebuilds_63 : decode cX7_rebuilds 63 = .ok (.iadd, 1) := by decide +kernel
theorem dX7_rebuilds_64 : decode cX7_rebuilds 64 = .ok (.iload_n 3, 1) := by decide +kernel
theorem dX7_rebuilds_65 : decode cX7_rebuilds 65 = .ok (.iload_n 2, 1) := by decide +kernel
theorem dX7_rebuilds_66 : decode cX7_rebuilds 66 = .ok (.if_icmp .ge 12, 3) := by decide +kernel
theorem dX7_rebuilds_69 : decode cX7_rebuilds 69 = .ok (.aload_n 0, 1) := by decide +kernel
theorem dX7_rebuilds_70 : decode cX7_rebuilds 70 = .ok (.getfield 19, 3) := by decide +kernel
theorem dX7_rebuilds_73 : decode cX7_rebuilds 73 = .ok (.iload_n 3, 1) := by decide +kernel
theorem dX7_rebuilds_74 : decode cX7_rebuilds 74 = .ok (.iaload, 1) := by decide +kernel
theorem dX7_rebuilds_75 : decode cX7_rebuilds 75 = .ok (.goto 4, 3) := by decide +kernel
theorem dX7_rebuilds_78 : decode cX7_rebuilds 78 = .ok (.iconst 0, 1) := by decide +kernel
theorem dX7_rebuilds_79 : decode cX7_rebuilds 79 = .ok (.invokevirtual 59, 3) := by decide +kernel
theorem dX7_rebuilds_82 : decode cX7_rebuilds 82 = .ok (.aload_n 0, 1) := by decide +kernel
theorem dX7_rebuilds_83 : decode cX7_rebuilds 83 = .ok (.iload_n 1, 1) := by decide +kernel
theorem dX7_rebuilds_84 : decode cX7_rebuilds 84 = .ok (.bipush 28, 2) := by decide +kernel
theorem dX7_rebuilds_86 : decode cX7_rebuilds 86 = .ok (.iload_n 3, 1) := by decide +kernel
theorem dX7_rebuilds_87 : decode cX7_rebuilds 87 = .ok (.iadd, 1) := by decide +kernel
theorem dX7_rebuilds_88 : decode cX7_rebuilds 88 = .ok (.iconst 0, 1) := by decide +kernel
theorem dX7_rebuilds_89 : decode cX7_rebuilds 89 = .ok (.invokevirtual 59, 3) := by decide +kernel
theorem dX7_rebuilds_92 : decode cX7_rebuilds 92 = .ok (.iinc 3 1, 3) := by decide +kernel
theorem dX7_rebuilds_95 : decode cX7_rebuilds 95 = .ok (.goto (-42), 3) := by decide +kernel
theorem dX7_rebuilds_98 : decode cX7_rebuilds 98 = .ok (.aload_n 0, 1) := by decide +kernel
theorem dX7_rebuilds_99 : decode cX7_rebuilds 99 = .ok (.getfield 7, 3) := by decide +kernel
theorem dX7_rebuilds_102 : decode cX7_rebuilds 102 = .ok (.bipush 7, 2) := by decide +kernel
theorem dX7_rebuilds_104 : decode cX7_rebuilds 104 = .ok (.dup2, 1) := by decide +kernel
theorem dX7_rebuilds_105 : decode cX7_rebuilds 105 = .ok (.iaload, 1) := by decide +kernel
theorem dX7_rebuilds_106 : decode cX7_rebuilds 106 = .ok (.iconst 1, 1) := by decide +kernel
theorem dX7_rebuilds_107 : decode cX7_rebuilds 107 = .ok (.iadd, 1) := by decide +kernel
theorem dX7_rebuilds_108 : decode cX7_rebuilds 108 = .ok (.iastore, 1) := by decide +kernel
theorem dX7_rebuilds_109 : decode cX7_rebuilds 109 = .ok (.aload_n 0, 1) := by decide +kernel
theorem dX7_rebuilds_110 : decode cX7_rebuilds 110 = .ok (.iload_n 1, 1) := by decide +kernel
theorem dX7_rebuilds_111 : decode cX7_rebuilds 111 = .ok (.invokevirtual 77, 3) := by decide +kernel
theorem dX7_rebuilds_114 : decode cX7_rebuilds 114 = .ok (.ireturn, 1) := by decide +kernel
theorem dX7_addNode_0 : decode cX7_addNode 0 = .ok (.aload_n 0, 1) := by decide +kernel
theorem dX7_addNode_1 : decode cX7_addNode 1 = .ok (.iload_n 1, 1) := by decide +kernel
theorem dX7_addNode_2 : decode cX7_addNode 2 = .ok (.invokevirtual 80, 3) := by decide +kernel
theorem dX7_addNode_5 : decode cX7_addNode 5 = .ok (.ifCond .ne 9, 3) := by decide +kernel
theorem dX7_addNode_8 : decode cX7_addNode 8 = .ok (.aload_n 0, 1) := by decide +kernel
theorem dX7_addNode_9 : decode cX7_addNode 9 = .ok (.iconst 1, 1) := by decide +kernel
theorem dX7_addNode_10 : decode cX7_addNode 10 = .ok (.invokevirtual 84, 3) := by decide +kernel
theorem dX7_addNode_13 : decode cX7_addNode 13 = .ok (.ireturn, 1) := by decide +kernel
theorem dX7_addNode_14 : decode cX7_addNode 14 = .ok (.iload_n 2, 1) := by decide +kernel
theorem dX7_addNode_15 : decode cX7_addNode 15 = .ok (.iconst 1, 1) := by decide +kernel
theorem dX7_addNode_16 : decode cX7_addNode 16 = .ok (.iconst 2, 1) := by decide +kernel
theorem dX7_addNode_17 : decode cX7_addNode 17 = .ok (.invokestatic 42, 3) := by decide +kernel
theorem dX7_addNode_20 : decode cX7_addNode 20 = .ok (.ifCond .ne 9, 3) := by decide +kernel
theorem dX7_addNode_23 : decode cX7_addNode 23 = .ok (.aload_n 0, 1) := by decide +kernel
theorem dX7_addNode_24 : decode cX7_addNode 24 = .ok (.iconst 2, 1) := by decide +kernel
theorem dX7_addNode_25 : decode cX7_addNode 25 = .ok (.invokevirtual 84, 3) := by decide +kernel
theorem dX7_addNode_28 : decode cX7_addNode 28 = .ok (.ireturn, 1) := by decide +kernel
theorem dX7_addNode_29 : decode cX7_addNode 29 = .ok (.aload_n 0, 1) := by decide +kernel
theorem dX7_addNode_30 : decode cX7_addNode 30 = .ok (.getfield 7, 3) := by decide +kernel
theorem dX7_addNode_33 : decode cX7_addNode 33 = .ok (.iconst 0, 1) := by decide +kernel
theorem dX7_addNode_34 : decode cX7_addNode 34 = .ok (.iaload, 1) := by decide +kernel
theorem dX7_addNode_35 : decode cX7_addNode 35 = .ok (.bipush 15, 2) := by decide +kernel
theorem dX7_addNode_37 : decode cX7_addNode 37 = .ok (.if_icmp .eq 15, 3) := by decide +kernel
theorem dX7_addNode_40 : decode cX7_addNode 40 = .ok (.aload_n 0, 1) := by decide +kernel
theorem dX7_addNode_41 : decode cX7_addNode 41 = .ok (.iload_n 1, 1) := by decide +kernel
theorem dX7_addNode_42 : decode cX7_addNode 42 = .ok (.iconst 0, 1) := by decide +kernel
theorem dX7_addNode_43 : decode cX7_addNode 43 = .ok (.iload_n 2, 1) := by decide +kernel
theorem dX7_addNode_44 : decode cX7_addNode 44 = .ok (.iadd, 1) := by decide +kernel
theorem dX7_addNode_45 : decode cX7_addNode 45 = .ok (.invokevirtual 46, 3) := by decide +kernel
theorem dX7_addNode_48 : decode cX7_addNode 48 = .ok (.iconst (-1), 1) := by decide +kernel
theorem dX7_addNode_49 : decode cX7_addNode 49 = .ok (.if_icmp .eq 9, 3) := by decide +kernel
theorem dX7_addNode_52 : decode cX7_addNode 52 = .ok (.aload_n 0, 1) := by decide +kernel
theorem dX7_addNode_53 : decode cX7_addNode 53 = .ok (.iconst 3, 1) := by decide +kernel
theorem dX7_addNode_54 : decode cX7_addNode 54 = .ok (.invokevirtual 84, 3) := by decide +kernel
theorem dX7_addNode_57 : decode cX7_addNode 57 = .ok (.ireturn, 1) := by decide +kernel
theorem dX7_addNode_58 : decode cX7_addNode 58 = .ok (.aload_n 0, 1) := by decide +kernel
theorem dX7_addNode_59 : decode cX7_addNode 59 = .ok (.invokevirtual 87, 3) := by decide +kernel
theorem dX7_addNode_62 : decode cX7_addNode 62 = .ok (.aload_n 0, 1) := by decide +kernel
theorem dX7_addNode_63 : decode cX7_addNode 63 = .ok (.getfield 7, 3) := by decide +kernel
theorem dX7_addNode_66 : decode cX7_addNode 66 = .ok (.iconst 0, 1) := by decide +kernel
theorem dX7_addNode_67 : decode cX7_addNode 67 = .ok (.iaload, 1) := by decide +kernel
theorem dX7_addNode_68 : decode cX7_addNode 68 = .ok (.istore_n 3, 1) := by decide +kernel
theorem dX7_addNode_69 : decode cX7_addNode 69 = .ok (.aload_n 0, 1) := by decide +kernel
theorem dX7_addNode_70 : decode cX7_addNode 70 = .ok (.getfield 7, 3) := by decide +kernel
theorem dX7_addNode_73 : decode cX7_addNode 73 = .ok (.iconst 0, 1) := by decide +kernel
theorem dX7_addNode_74 : decode cX7_addNode 74 = .ok (.dup2, 1) := by decide +kernel
theorem dX7_addNode_75 : decode cX7_addNode 75 = .ok (.iaload, 1) := by decide +kernel
theorem dX7_addNode_76 : decode cX7_addNode 76 = .ok (.iconst 1, 1) := by decide +kernel
theorem dX7_addNode_77 : decode cX7_addNode 77 = .ok (.iadd, 1) := by decide +kernel
theorem dX7_addNode_78 : decode cX7_addNode 78 = .ok (.iastore, 1) := by decide +kernel
theorem dX7_addNode_79 : decode cX7_addNode 79 = .ok (.iconst 0, 1) := by decide +kernel
theorem dX7_addNode_80 : decode cX7_addNode 80 = .ok (.istore 4, 2) := by decide +kernel
theorem dX7_addNode_82 : decode cX7_addNode 82 = .ok (.iload 4, 2) := by decide +kernel
theorem dX7_addNode_84 : decode cX7_addNode 84 = .ok (.sipush 545, 3) := by decide +kernel
theorem dX7_addNode_87 : decode cX7_addNode 87 = .ok (.if_icmp .ge 17, 3) := by decide +kernel
theorem dX7_addNode_90 : decode cX7_addNode 90 = .ok (.aload_n 0, 1) := by decide +kernel
theorem dX7_addNode_91 : decode cX7_addNode 91 = .ok (.iload_n 3, 1) := by decide +kernel
theorem dX7_addNode_92 : decode cX7_addNode 92 = .ok (.iload 4, 2) := by decide +kernel
theorem dX7_addNode_94 : decode cX7_addNode 94 = .ok (.iconst 0, 1) := by decide +kernel
theorem dX7_addNode_95 : decode cX7_addNode 95 = .ok (.invokevirtual 59, 3) := by decide +kernel
theorem dX7_addNode_98 : decode cX7_addNode 98 = .ok (.iinc 4 1, 3) := by decide +kernel
theorem dX7_addNode_101 : decode cX7_addNode 101 = .ok (.goto (-19), 3) := by decide +kernel
theorem dX7_addNode_104 : decode cX7_addNode 104 = .ok (.aload_n 0, 1) := by decide +kernel
theorem dX7_addNode_105 : decode cX7_addNode 105 = .ok (.iload_n 3, 1) := by decide +kernel
theorem dX7_addNode_106 : decode cX7_addNode 106 = .ok (.iconst 0, 1) := by decide +kernel
theorem dX7_addNode_107 : decode cX7_addNode 107 = .ok (.iload_n 1, 1) := by decide +kernel
theorem dX7_addNode_108 : decode cX7_addNode 108 = .ok (.invokevirtual 59, 3) := by decide +kernel
theorem dX7_addNode_111 : decode cX7_addNode 111 = .ok (.aload_n 0, 1) := by decide +kernel
theorem dX7_addNode_112 : decode cX7_addNode 112 = .ok (.iload_n 3, 1) := by decide +kernel
theorem dX7_addNode_113 : decode cX7_addNode 113 = .ok (.iconst 1, 1) := by decide +kernel
theorem dX7_addNode_114 : decode cX7_addNode 114 = .ok (.iconst (-1), 1) := by decide +kernel
theorem dX7_addNode_115 : decode cX7_addNode 115 = .ok (.invokevirtual 59, 3) := by decide +kernel
theorem dX7_addNode_118 : decode cX7_addNode 118 = .ok (.aload_n 0, 1) := by decide +kernel
theorem dX7_addNode_119 : decode cX7_addNode 119 = .ok (.iload_n 3, 1) := by decide +kernel
theorem dX7_addNode_120 : decode cX7_addNode 120 = .ok (.iconst 2, 1) := by decide +kernel
theorem dX7_addNode_121 : decode cX7_addNode 121 = .ok (.iconst (-1), 1) := by decide +kernel
theorem dX7_addNode_122 : decode cX7_addNode 122 = .ok (.invokevirtual 59, 3) := by decide +kernel
theorem dX7_addNode_125 : decode cX7_addNode 125 = .ok (.aload_n 0, 1) := by decide +kernel
theorem dX7_addNode_126 : decode cX7_addNode 126 = .ok (.iload_n 1, 1) := by decide +kernel
theorem dX7_addNode_127 : decode cX7_addNode 127 = .ok (.iconst 0, 1) := by decide +kernel
theorem dX7_addNode_128 : decode cX7_addNode 128 = .ok (.iload_n 2, 1) := by decide +kernel
theorem dX7_addNode_129 : decode cX7_addNode 129 = .ok (.iadd, 1) := by decide +kernel
theorem dX7_addNode_130 : decode cX7_addNode 130 = .ok (.iload_n 3, 1) := by decide +kernel
theorem dX7_addNode_131 : decode cX7_addNode 131 = .ok (.invokevirtual 59, 3) := by decide +kernel
theorem dX7_addNode_134 : decode cX7_addNode 134 = .ok (.aload_n 0, 1) := by decide +kernel
theorem dX7_addNode_135 : decode cX7_addNode 135 = .ok (.iload_n 3, 1) := by decide +kernel
theorem dX7_addNode_136 : decode cX7_addNode 136 = .ok (.invokevirtual 77, 3) := by decide +kernel
theorem dX7_addNode_139 : decode cX7_addNode 139 = .ok (.istore 4, 2) := by decide +kernel
theorem dX7_addNode_141 : decode cX7_addNode 141 = .ok (.aload_n 0, 1) := by decide +kernel
theorem dX7_addNode_142 : decode cX7_addNode 142 = .ok (.iload 4, 2) := by decide +kernel
theorem dX7_addNode_144 : decode cX7_addNode 144 = .ok (.ifCond .ge 8, 3) := by decide +kernel
theorem dX7_addNode_147 : decode cX7_addNode 147 = .ok (.iload 4, 2) := by decide +kernel
theorem dX7_addNode_149 : decode cX7_addNode 149 = .ok (.goto 4, 3) := by decide +kernel
theorem dX7_addNode_152 : decode cX7_addNode 152 = .ok (.iload_n 3, 1) := by decide +kernel
theorem dX7_addNode_153 : decode cX7_addNode 153 = .ok (.invokevirtual 90, 3) := by decide +kernel
theorem dX7_addNode_156 : decode cX7_addNode 156 = .ok (.ireturn, 1) := by decide +kernel
theorem dX7_comes_0 : decode cX7_comes 0 = .ok (.aload_n 0, 1) := by decide +kernel
theorem dX7_comes_1 : decode cX7_comes 1 = .ok (.iload_n 1, 1) := by decide +kernel
theorem dX7_comes_2 : decode cX7_comes 2 = .ok (.iload_n 2, 1) := by decide +kernel
theorem dX7_comes_3 : decode cX7_comes 3 = .ok (.invokevirtual 53, 3) := by decide +kernel
theorem dX7_comes_6 : decode cX7_comes 6 = .ok (.istore_n 3, 1) := by decide +kernel
theorem dX7_comes_7 : decode cX7_comes 7 = .ok (.iload_n 3, 1) := by decide +kernel
theorem dX7_comes_8 : decode cX7_comes 8 = .ok (.iconst (-1), 1) := by decide +kernel
theorem dX7_comes_9 : decode cX7_comes 9 = .ok (.if_icmp .eq 14, 3) := by decide +kernel
theorem dX7_comes_12 : decode cX7_comes 12 = .ok (.aload_n 0, 1) := by decide +kernel
theorem dX7_comes_13 : decode cX7_comes 13 = .ok (.iload_n 1, 1) := by decide +kernel
theorem dX7_comes_14 : decode cX7_comes 14 = .ok (.bipush 28, 2) := by decide +kernel
theorem dX7_comes_16 : decode cX7_comes 16 = .ok (.iload_n 3, 1) := by decide +kernel
theorem dX7_comes_17 : decode cX7_comes 17 = .ok (.iadd, 1) := by decide +kernel
theorem dX7_comes_18 : decode cX7_comes 18 = .ok (.iconst 0, 1) := by decide +kernel
theorem dX7_comes_19 : decode cX7_comes 19 = .ok (.invokevirtual 59, 3) := by decide +kernel
theorem dX7_comes_22 : decode cX7_comes 22 = .ok (.return_, 1) := by decide +kernel
theorem dX7_comes_23 : decode cX7_comes 23 = .ok (.aload_n 0, 1) := by decide +kernel
theorem dX7_comes_24 : decode cX7_comes 24 = .ok (.iload_n 1, 1) := by decide +kernel
theorem dX7_comes_25 : decode cX7_comes 25 = .ok (.bipush 53, 2) := by decide +kernel
theorem dX7_comes_27 : decode cX7_comes 27 = .ok (.aload_n 0, 1) := by decide +kernel
theorem dX7_comes_28 : decode cX7_comes 28 = .ok (.iload_n 1, 1) := by decide +kernel
theorem dX7_comes_29 : decode cX7_comes 29 = .ok (.bipush 52, 2) := by decide +kernel
theorem dX7_comes_31 : decode cX7_comes 31 = .ok (.invokevirtual 46, 3) := by decide +kernel
theorem dX7_comes_34 : decode cX7_comes 34 = .ok (.iadd, 1) := by decide +kernel
theorem dX7_comes_35 : decode cX7_comes 35 = .ok (.iload_n 2, 1) := by decide +kernel
theorem dX7_comes_36 : decode cX7_comes 36 = .ok (.invokevirtual 59, 3) := by decide +kernel
theorem dX7_comes_39 : decode cX7_comes 39 = .ok (.aload_n 0, 1) := by decide +kernel
theorem dX7_comes_40 : decode cX7_comes 40 = .ok (.iload_n 1, 1) := by decide +kernel
theorem dX7_comes_41 : decode cX7_comes 41 = .ok (.bipush 52, 2) := by decide +kernel
theorem dX7_comes_43 : decode cX7_comes 43 = .ok (.aload_n 0, 1) := by decide +kernel
theorem dX7_comes_44 : decode cX7_comes 44 = .ok (.iload_n 1, 1) := by decide +kernel
theorem dX7_comes_45 : decode cX7_comes 45 = .ok (.bipush 52, 2) := by decide +kernel
theorem dX7_comes_47 : decode cX7_comes 47 = .ok (.invokevirtual 46, 3) := by decide +kernel
theorem dX7_comes_50 : decode cX7_comes 50 = .ok (.iconst 1, 1) := by decide +kernel
theorem dX7_comes_51 : decode cX7_comes 51 = .ok (.iadd, 1) := by decide +kernel
theorem dX7_comes_52 : decode cX7_comes 52 = .ok (.invokevirtual 59, 3) := by decide +kernel
theorem dX7_comes_55 : decode cX7_comes 55 = .ok (.aload_n 0, 1) := by decide +kernel
theorem dX7_comes_56 : decode cX7_comes 56 = .ok (.iload_n 1, 1) := by decide +kernel
theorem dX7_comes_57 : decode cX7_comes 57 = .ok (.bipush 52, 2) := by decide +kernel
theorem dX7_comes_59 : decode cX7_comes 59 = .ok (.invokevirtual 46, 3) := by decide +kernel
theorem dX7_comes_62 : decode cX7_comes 62 = .ok (.aload_n 0, 1) := by decide +kernel
theorem dX7_comes_63 : decode cX7_comes 63 = .ok (.getfield 7, 3) := by decide +kernel
theorem dX7_comes_66 : decode cX7_comes 66 = .ok (.iconst 1, 1) := by decide +kernel
end
section
theorem dX7_comes_67 : decode cX7_comes 67 = .ok (.iaload, 1) := by decide +kernel
theorem dX7_comes_68 : decode cX7_comes 68 = .ok (.if_icmp .lt 10, 3) := by decide +kernel
theorem dX7_comes_71 : decode cX7_comes 71 = .ok (.aload_n 0, 1) := by decide +kernel
theorem dX7_comes_72 : decode cX7_comes 72 = .ok (.iload_n 1, 1) := by decide +kernel
theorem dX7_comes_73 : decode cX7_comes 73 = .ok (.invokevirtual 93, 3) := by decide +kernel
theorem dX7_comes_76 : decode cX7_comes 76 = .ok (.istore 4, 2) := by decide +kernel
theorem dX7_comes_78 : decode cX7_comes 78 = .ok (.return_, 1) := by decide +kernel
theorem dX7_add_0 : decode cX7_add 0 = .ok (.aload_n 0, 1) := by decide +kernel
theorem dX7_add_1 : decode cX7_add 1 = .ok (.iload_n 1, 1) := by decide +kernel
theorem dX7_add_2 : decode cX7_add 2 = .ok (.invokevirtual 80, 3) := by decide +kernel
theorem dX7_add_5 : decode cX7_add 5 = .ok (.ifCond .ne 17, 3) := by decide +kernel
theorem dX7_add_8 : decode cX7_add 8 = .ok (.aload_n 0, 1) := by decide +kernel
theorem dX7_add_9 : decode cX7_add 9 = .ok (.iconst 1, 1) := by decide +kernel
theorem dX7_add_10 : decode cX7_add 10 = .ok (.invokevirtual 84, 3) := by decide +kernel
theorem dX7_add_13 : decode cX7_add 13 = .ok (.ifCond .eq 7, 3) := by decide +kernel
theorem dX7_add_16 : decode cX7_add 16 = .ok (.iconst 1, 1) := by decide +kernel
theorem dX7_add_17 : decode cX7_add 17 = .ok (.goto 4, 3) := by decide +kernel
theorem dX7_add_20 : decode cX7_add 20 = .ok (.iconst 0, 1) := by decide +kernel
theorem dX7_add_21 : decode cX7_add 21 = .ok (.ireturn, 1) := by decide +kernel
theorem dX7_add_22 : decode cX7_add 22 = .ok (.iload_n 2, 1) := by decide +kernel
theorem dX7_add_23 : decode cX7_add 23 = .ok (.invokestatic 96, 3) := by decide +kernel
theorem dX7_add_26 : decode cX7_add 26 = .ok (.ifCond .ne 17, 3) := by decide +kernel
theorem dX7_add_29 : decode cX7_add 29 = .ok (.aload_n 0, 1) := by decide +kernel
theorem dX7_add_30 : decode cX7_add 30 = .ok (.iconst 2, 1) := by decide +kernel
theorem dX7_add_31 : decode cX7_add 31 = .ok (.invokevirtual 84, 3) := by decide +kernel
theorem dX7_add_34 : decode cX7_add 34 = .ok (.ifCond .eq 7, 3) := by decide +kernel
theorem dX7_add_37 : decode cX7_add 37 = .ok (.iconst 1, 1) := by decide +kernel
theorem dX7_add_38 : decode cX7_add 38 = .ok (.goto 4, 3) := by decide +kernel
theorem dX7_add_41 : decode cX7_add 41 = .ok (.iconst 0, 1) := by decide +kernel
theorem dX7_add_42 : decode cX7_add 42 = .ok (.ireturn, 1) := by decide +kernel
theorem dX7_add_43 : decode cX7_add 43 = .ok (.aload_n 0, 1) := by decide +kernel
theorem dX7_add_44 : decode cX7_add 44 = .ok (.iload_n 1, 1) := by decide +kernel
theorem dX7_add_45 : decode cX7_add 45 = .ok (.iload_n 2, 1) := by decide +kernel
theorem dX7_add_46 : decode cX7_add 46 = .ok (.invokevirtual 99, 3) := by decide +kernel
theorem dX7_add_49 : decode cX7_add 49 = .ok (.istore_n 3, 1) := by decide +kernel
theorem dX7_add_50 : decode cX7_add 50 = .ok (.iload_n 3, 1) := by decide +kernel
theorem dX7_add_51 : decode cX7_add 51 = .ok (.ifCond .ne 27, 3) := by decide +kernel
theorem dX7_add_54 : decode cX7_add 54 = .ok (.aload_n 0, 1) := by decide +kernel
theorem dX7_add_55 : decode cX7_add 55 = .ok (.iload_n 1, 1) := by decide +kernel
theorem dX7_add_56 : decode cX7_add 56 = .ok (.invokevirtual 103, 3) := by decide +kernel
theorem dX7_add_59 : decode cX7_add 59 = .ok (.bipush 24, 2) := by decide +kernel
theorem dX7_add_61 : decode cX7_add 61 = .ok (.if_icmp .ne 17, 3) := by decide +kernel
theorem dX7_add_64 : decode cX7_add 64 = .ok (.aload_n 0, 1) := by decide +kernel
theorem dX7_add_65 : decode cX7_add 65 = .ok (.iconst 3, 1) := by decide +kernel
theorem dX7_add_66 : decode cX7_add 66 = .ok (.invokevirtual 84, 3) := by decide +kernel
theorem dX7_add_69 : decode cX7_add 69 = .ok (.ifCond .eq 7, 3) := by decide +kernel
theorem dX7_add_72 : decode cX7_add 72 = .ok (.iconst 1, 1) := by decide +kernel
theorem dX7_add_73 : decode cX7_add 73 = .ok (.goto 4, 3) := by decide +kernel
theorem dX7_add_76 : decode cX7_add 76 = .ok (.iconst 0, 1) := by decide +kernel
theorem dX7_add_77 : decode cX7_add 77 = .ok (.ireturn, 1) := by decide +kernel
theorem dX7_add_78 : decode cX7_add 78 = .ok (.aload_n 0, 1) := by decide +kernel
theorem dX7_add_79 : decode cX7_add 79 = .ok (.invokevirtual 87, 3) := by decide +kernel
theorem dX7_add_82 : decode cX7_add 82 = .ok (.iload_n 3, 1) := by decide +kernel
theorem dX7_add_83 : decode cX7_add 83 = .ok (.ifCond .ne 9, 3) := by decide +kernel
theorem dX7_add_86 : decode cX7_add 86 = .ok (.aload_n 0, 1) := by decide +kernel
theorem dX7_add_87 : decode cX7_add 87 = .ok (.iload_n 1, 1) := by decide +kernel
theorem dX7_add_88 : decode cX7_add 88 = .ok (.iload_n 2, 1) := by decide +kernel
theorem dX7_add_89 : decode cX7_add 89 = .ok (.invokevirtual 106, 3) := by decide +kernel
theorem dX7_add_92 : decode cX7_add 92 = .ok (.aload_n 0, 1) := by decide +kernel
theorem dX7_add_93 : decode cX7_add 93 = .ok (.iload_n 3, 1) := by decide +kernel
theorem dX7_add_94 : decode cX7_add 94 = .ok (.ifCond .eq 7, 3) := by decide +kernel
theorem dX7_add_97 : decode cX7_add 97 = .ok (.iconst 0, 1) := by decide +kernel
theorem dX7_add_98 : decode cX7_add 98 = .ok (.goto 4, 3) := by decide +kernel
theorem dX7_add_101 : decode cX7_add 101 = .ok (.iconst 1, 1) := by decide +kernel
theorem dX7_add_102 : decode cX7_add 102 = .ok (.invokevirtual 90, 3) := by decide +kernel
theorem dX7_add_105 : decode cX7_add 105 = .ok (.iconst 1, 1) := by decide +kernel
theorem dX7_add_106 : decode cX7_add 106 = .ok (.if_icmp .ne 7, 3) := by decide +kernel
theorem dX7_add_109 : decode cX7_add 109 = .ok (.iconst 1, 1) := by decide +kernel
theorem dX7_add_110 : decode cX7_add 110 = .ok (.goto 4, 3) := by decide +kernel
theorem dX7_add_113 : decode cX7_add 113 = .ok (.iconst 0, 1) := by decide +kernel
theorem dX7_add_114 : decode cX7_add 114 = .ok (.ireturn, 1) := by decide +kernel
theorem dX7_goes_0 : decode cX7_goes 0 = .ok (.aload_n 0, 1) := by decide +kernel
theorem dX7_goes_1 : decode cX7_goes 1 = .ok (.iload_n 1, 1) := by decide +kernel
theorem dX7_goes_2 : decode cX7_goes 2 = .ok (.iload_n 2, 1) := by decide +kernel
theorem dX7_goes_3 : decode cX7_goes 3 = .ok (.invokevirtual 56, 3) := by decide +kernel
theorem dX7_goes_6 : decode cX7_goes 6 = .ok (.istore_n 3, 1) := by decide +kernel
theorem dX7_goes_7 : decode cX7_goes 7 = .ok (.iload_n 3, 1) := by decide +kernel
theorem dX7_goes_8 : decode cX7_goes 8 = .ok (.iconst (-1), 1) := by decide +kernel
theorem dX7_goes_9 : decode cX7_goes 9 = .ok (.if_icmp .ne 42, 3) := by decide +kernel
theorem dX7_goes_12 : decode cX7_goes 12 = .ok (.aload_n 0, 1) := by decide +kernel
theorem dX7_goes_13 : decode cX7_goes 13 = .ok (.iload_n 1, 1) := by decide +kernel
theorem dX7_goes_14 : decode cX7_goes 14 = .ok (.bipush 28, 2) := by decide +kernel
theorem dX7_goes_16 : decode cX7_goes 16 = .ok (.aload_n 0, 1) := by decide +kernel
theorem dX7_goes_17 : decode cX7_goes 17 = .ok (.iload_n 1, 1) := by decide +kernel
theorem dX7_goes_18 : decode cX7_goes 18 = .ok (.iload_n 2, 1) := by decide +kernel
theorem dX7_goes_19 : decode cX7_goes 19 = .ok (.invokevirtual 53, 3) := by decide +kernel
theorem dX7_goes_22 : decode cX7_goes 22 = .ok (.iadd, 1) := by decide +kernel
theorem dX7_goes_23 : decode cX7_goes 23 = .ok (.iconst 1, 1) := by decide +kernel
theorem dX7_goes_24 : decode cX7_goes 24 = .ok (.invokevirtual 59, 3) := by decide +kernel
theorem dX7_goes_27 : decode cX7_goes 27 = .ok (.iconst 2, 1) := by decide +kernel
theorem dX7_goes_28 : decode cX7_goes 28 = .ok (.aload_n 0, 1) := by decide +kernel
theorem dX7_goes_29 : decode cX7_goes 29 = .ok (.iload_n 1, 1) := by decide +kernel
theorem dX7_goes_30 : decode cX7_goes 30 = .ok (.invokevirtual 50, 3) := by decide +kernel
theorem dX7_goes_33 : decode cX7_goes 33 = .ok (.imul, 1) := by decide +kernel
theorem dX7_goes_34 : decode cX7_goes 34 = .ok (.aload_n 0, 1) := by decide +kernel
theorem dX7_goes_35 : decode cX7_goes 35 = .ok (.iload_n 1, 1) := by decide +kernel
theorem dX7_goes_36 : decode cX7_goes 36 = .ok (.iconst 3, 1) := by decide +kernel
theorem dX7_goes_37 : decode cX7_goes 37 = .ok (.invokevirtual 46, 3) := by decide +kernel
theorem dX7_goes_40 : decode cX7_goes 40 = .ok (.if_icmp .le 10, 3) := by decide +kernel
theorem dX7_goes_43 : decode cX7_goes 43 = .ok (.aload_n 0, 1) := by decide +kernel
theorem dX7_goes_44 : decode cX7_goes 44 = .ok (.iload_n 1, 1) := by decide +kernel
theorem dX7_goes_45 : decode cX7_goes 45 = .ok (.invokevirtual 93, 3) := by decide +kernel
theorem dX7_goes_48 : decode cX7_goes 48 = .ok (.istore 4, 2) := by decide +kernel
theorem dX7_goes_50 : decode cX7_goes 50 = .ok (.return_, 1) := by decide +kernel
theorem dX7_goes_51 : decode cX7_goes 51 = .ok (.aload_n 0, 1) := by decide +kernel
theorem dX7_goes_52 : decode cX7_goes 52 = .ok (.iload_n 1, 1) := by decide +kernel
theorem dX7_goes_53 : decode cX7_goes 53 = .ok (.bipush 52, 2) := by decide +kernel
theorem dX7_goes_55 : decode cX7_goes 55 = .ok (.aload_n 0, 1) := by decide +kernel
theorem dX7_goes_56 : decode cX7_goes 56 = .ok (.iload_n 1, 1) := by decide +kernel
theorem dX7_goes_57 : decode cX7_goes 57 = .ok (.bipush 52, 2) := by decide +kernel
theorem dX7_goes_59 : decode cX7_goes 59 = .ok (.invokevirtual 46, 3) := by decide +kernel
theorem dX7_goes_62 : decode cX7_goes 62 = .ok (.iconst 1, 1) := by decide +kernel
theorem dX7_goes_63 : decode cX7_goes 63 = .ok (.isub, 1) := by decide +kernel
theorem dX7_goes_64 : decode cX7_goes 64 = .ok (.invokevirtual 59, 3) := by decide +kernel
theorem dX7_goes_67 : decode cX7_goes 67 = .ok (.iload_n 3, 1) := by decide +kernel
theorem dX7_goes_68 : decode cX7_goes 68 = .ok (.istore 4, 2) := by decide +kernel
theorem dX7_goes_70 : decode cX7_goes 70 = .ok (.iload 4, 2) := by decide +kernel
theorem dX7_goes_72 : decode cX7_goes 72 = .ok (.aload_n 0, 1) := by decide +kernel
theorem dX7_goes_73 : decode cX7_goes 73 = .ok (.iload_n 1, 1) := by decide +kernel
theorem dX7_goes_74 : decode cX7_goes 74 = .ok (.bipush 52, 2) := by decide +kernel
theorem dX7_goes_76 : decode cX7_goes 76 = .ok (.invokevirtual 46, 3) := by decide +kernel
theorem dX7_goes_79 : decode cX7_goes 79 = .ok (.if_icmp .ge 31, 3) := by decide +kernel
theorem dX7_goes_82 : decode cX7_goes 82 = .ok (.aload_n 0, 1) := by decide +kernel
theorem dX7_goes_83 : decode cX7_goes 83 = .ok (.iload_n 1, 1) := by decide +kernel
theorem dX7_goes_84 : decode cX7_goes 84 = .ok (.bipush 53, 2) := by decide +kernel
theorem dX7_goes_86 : decode cX7_goes 86 = .ok (.iload 4, 2) := by decide +kernel
theorem dX7_goes_88 : decode cX7_goes 88 = .ok (.iadd, 1) := by decide +kernel
theorem dX7_goes_89 : decode cX7_goes 89 = .ok (.aload_n 0, 1) := by decide +kernel
theorem dX7_goes_90 : decode cX7_goes 90 = .ok (.iload_n 1, 1) := by decide +kernel
theorem dX7_goes_91 : decode cX7_goes 91 = .ok (.bipush 53, 2) := by decide +kernel
theorem dX7_goes_93 : decode cX7_goes 93 = .ok (.iload 4, 2) := by decide +kernel
theorem dX7_goes_95 : decode cX7_goes 95 = .ok (.iadd, 1) := by decide +kernel
theorem dX7_goes_96 : decode cX7_goes 96 = .ok (.iconst 1, 1) := by decide +kernel
theorem dX7_goes_97 : decode cX7_goes 97 = .ok (.iadd, 1) := by decide +kernel
theorem dX7_goes_98 : decode cX7_goes 98 = .ok (.invokevirtual 46, 3) := by decide +kernel
theorem dX7_goes_101 : decode cX7_goes 101 = .ok (.invokevirtual 59, 3) := by decide +kernel
theorem dX7_goes_104 : decode cX7_goes 104 = .ok (.iinc 4 1, 3) := by decide +kernel
theorem dX7_goes_107 : decode cX7_goes 107 = .ok (.goto (-37), 3) := by decide +kernel
theorem dX7_goes_110 : decode cX7_goes 110 = .ok (.return_, 1) := by decide +kernel
theorem dX7_remove_0 : decode cX7_remove 0 = .ok (.aload_n 0, 1) := by decide +kernel
theorem dX7_remove_1 : decode cX7_remove 1 = .ok (.iload_n 1, 1) := by decide +kernel
theorem dX7_remove_2 : decode cX7_remove 2 = .ok (.invokevirtual 80, 3) := by decide +kernel
theorem dX7_remove_5 : decode cX7_remove 5 = .ok (.ifCond .ne 17, 3) := by decide +kernel
theorem dX7_remove_8 : decode cX7_remove 8 = .ok (.aload_n 0, 1) := by decide +kernel
theorem dX7_remove_9 : decode cX7_remove 9 = .ok (.iconst 1, 1) := by decide +kernel
theorem dX7_remove_10 : decode cX7_remove 10 = .ok (.invokevirtual 84, 3) := by decide +kernel
theorem dX7_remove_13 : decode cX7_remove 13 = .ok (.ifCond .eq 7, 3) := by decide +kernel
theorem dX7_remove_16 : decode cX7_remove 16 = .ok (.iconst 1, 1) := by decide +kernel
theorem dX7_remove_17 : decode cX7_remove 17 = .ok (.goto 4, 3) := by decide +kernel
theorem dX7_remove_20 : decode cX7_remove 20 = .ok (.iconst 0, 1) := by decide +kernel
theorem dX7_remove_21 : decode cX7_remove 21 = .ok (.ireturn, 1) := by decide +kernel
theorem dX7_remove_22 : decode cX7_remove 22 = .ok (.iload_n 2, 1) := by decide +kernel
theorem dX7_remove_23 : decode cX7_remove 23 = .ok (.invokestatic 96, 3) := by decide +kernel
theorem dX7_remove_26 : decode cX7_remove 26 = .ok (.ifCond .ne 17, 3) := by decide +kernel
theorem dX7_remove_29 : decode cX7_remove 29 = .ok (.aload_n 0, 1) := by decide +kernel
theorem dX7_remove_30 : decode cX7_remove 30 = .ok (.iconst 2, 1) := by decide +kernel
theorem dX7_remove_31 : decode cX7_remove 31 = .ok (.invokevirtual 84, 3) := by decide +kernel
theorem dX7_remove_34 : decode cX7_remove 34 = .ok (.ifCond .eq 7, 3) := by decide +kernel
theorem dX7_remove_37 : decode cX7_remove 37 = .ok (.iconst 1, 1) := by decide +kernel
theorem dX7_remove_38 : decode cX7_remove 38 = .ok (.goto 4, 3) := by decide +kernel
theorem dX7_remove_41 : decode cX7_remove 41 = .ok (.iconst 0, 1) := by decide +kernel
theorem dX7_remove_42 : decode cX7_remove 42 = .ok (.ireturn, 1) := by decide +kernel
theorem dX7_remove_43 : decode cX7_remove 43 = .ok (.aload_n 0, 1) := by decide +kernel
theorem dX7_remove_44 : decode cX7_remove 44 = .ok (.invokevirtual 87, 3) := by decide +kernel
theorem dX7_remove_47 : decode cX7_remove 47 = .ok (.aload_n 0, 1) := by decide +kernel
theorem dX7_remove_48 : decode cX7_remove 48 = .ok (.iload_n 1, 1) := by decide +kernel
theorem dX7_remove_49 : decode cX7_remove 49 = .ok (.iload_n 2, 1) := by decide +kernel
theorem dX7_remove_50 : decode cX7_remove 50 = .ok (.invokevirtual 99, 3) := by decide +kernel
theorem dX7_remove_53 : decode cX7_remove 53 = .ok (.istore_n 3, 1) := by decide +kernel
theorem dX7_remove_54 : decode cX7_remove 54 = .ok (.iload_n 3, 1) := by decide +kernel
theorem dX7_remove_55 : decode cX7_remove 55 = .ok (.ifCond .eq 9, 3) := by decide +kernel
theorem dX7_remove_58 : decode cX7_remove 58 = .ok (.aload_n 0, 1) := by decide +kernel
theorem dX7_remove_59 : decode cX7_remove 59 = .ok (.iload_n 1, 1) := by decide +kernel
theorem dX7_remove_60 : decode cX7_remove 60 = .ok (.iload_n 2, 1) := by decide +kernel
theorem dX7_remove_61 : decode cX7_remove 61 = .ok (.invokevirtual 110, 3) := by decide +kernel
theorem dX7_remove_64 : decode cX7_remove 64 = .ok (.aload_n 0, 1) := by decide +kernel
theorem dX7_remove_65 : decode cX7_remove 65 = .ok (.iload_n 3, 1) := by decide +kernel
theorem dX7_remove_66 : decode cX7_remove 66 = .ok (.ifCond .eq 7, 3) := by decide +kernel
theorem dX7_remove_69 : decode cX7_remove 69 = .ok (.iconst 1, 1) := by decide +kernel
theorem dX7_remove_70 : decode cX7_remove 70 = .ok (.goto 4, 3) := by decide +kernel
theorem dX7_remove_73 : decode cX7_remove 73 = .ok (.iconst 0, 1) := by decide +kernel
theorem dX7_remove_74 : decode cX7_remove 74 = .ok (.invokevirtual 90, 3) := by decide +kernel
theorem dX7_remove_77 : decode cX7_remove 77 = .ok (.iconst 1, 1) := by decide +kernel
theorem dX7_remove_78 : decode cX7_remove 78 = .ok (.if_icmp .ne 7, 3) := by decide +kernel
theorem dX7_remove_81 : decode cX7_remove 81 = .ok (.iconst 1, 1) := by decide +kernel
theorem dX7_remove_82 : decode cX7_remove 82 = .ok (.goto 4, 3) := by decide +kernel
theorem dX7_remove_85 : decode cX7_remove 85 = .ok (.iconst 0, 1) := by decide +kernel
theorem dX7_remove_86 : decode cX7_remove 86 = .ok (.ireturn, 1) := by decide +kernel
theorem dX7_addSeries_0 : decode cX7_addSeries 0 = .ok (.aload_n 0, 1) := by decide +kernel
theorem dX7_addSeries_1 : decode cX7_addSeries 1 = .ok (.iload_n 1, 1) := by decide +kernel
theorem dX7_addSeries_2 : decode cX7_addSeries 2 = .ok (.invokevirtual 80, 3) := by decide +kernel
theorem dX7_addSeries_5 : decode cX7_addSeries 5 = .ok (.ifCond .ne 9, 3) := by decide +kernel
theorem dX7_addSeries_8 : decode cX7_addSeries 8 = .ok (.aload_n 0, 1) := by decide +kernel
theorem dX7_addSeries_9 : decode cX7_addSeries 9 = .ok (.iconst 1, 1) := by decide +kernel
theorem dX7_addSeries_10 : decode cX7_addSeries 10 = .ok (.invokevirtual 84, 3) := by decide +kernel
theorem dX7_addSeries_13 : decode cX7_addSeries 13 = .ok (.ireturn, 1) := by decide +kernel
theorem dX7_addSeries_14 : decode cX7_addSeries 14 = .ok (.iload_n 2, 1) := by decide +kernel
theorem dX7_addSeries_15 : decode cX7_addSeries 15 = .ok (.invokestatic 96, 3) := by decide +kernel
theorem dX7_addSeries_18 : decode cX7_addSeries 18 = .ok (.ifCond .eq 25, 3) := by decide +kernel
theorem dX7_addSeries_21 : decode cX7_addSeries 21 = .ok (.iload_n 3, 1) := by decide +kernel
theorem dX7_addSeries_22 : decode cX7_addSeries 22 = .ok (.iconst 1, 1) := by decide +kernel
theorem dX7_addSeries_23 : decode cX7_addSeries 23 = .ok (.sipush 999, 3) := by decide +kernel
theorem dX7_addSeries_26 : decode cX7_addSeries 26 = .ok (.invokestatic 42, 3) := by decide +kernel
theorem dX7_addSeries_29 : decode cX7_addSeries 29 = .ok (.ifCond .eq 14, 3) := by decide +kernel
theorem dX7_addSeries_32 : decode cX7_addSeries 32 = .ok (.iload 4, 2) := by decide +kernel
theorem dX7_addSeries_34 : decode cX7_addSeries 34 = .ok (.iconst 1, 1) := by decide +kernel
theorem dX7_addSeries_35 : decode cX7_addSeries 35 = .ok (.bipush 24, 2) := by decide +kernel
theorem dX7_addSeries_37 : decode cX7_addSeries 37 = .ok (.invokestatic 42, 3) := by decide +kernel
theorem dX7_addSeries_40 : decode cX7_addSeries 40 = .ok (.ifCond .ne 9, 3) := by decide +kernel
theorem dX7_addSeries_43 : decode cX7_addSeries 43 = .ok (.aload_n 0, 1) := by decide +kernel
theorem dX7_addSeries_44 : decode cX7_addSeries 44 = .ok (.iconst 2, 1) := by decide +kernel
theorem dX7_addSeries_45 : decode cX7_addSeries 45 = .ok (.invokevirtual 84, 3) := by decide +kernel
theorem dX7_addSeries_48 : decode cX7_addSeries 48 = .ok (.ireturn, 1) := by decide +kernel
theorem dX7_addSeries_49 : decode cX7_addSeries 49 = .ok (.aload_n 0, 1) := by decide +kernel
theorem dX7_addSeries_50 : decode cX7_addSeries 50 = .ok (.invokevirtual 87, 3) := by decide +kernel
theorem dX7_addSeries_53 : decode cX7_addSeries 53 = .ok (.iconst 0, 1) := by decide +kernel
theorem dX7_addSeries_54 : decode cX7_addSeries 54 = .ok (.istore 5, 2) := by decide +kernel
theorem dX7_addSeries_56 : decode cX7_addSeries 56 = .ok (.iconst 0, 1) := by decide +kernel
theorem dX7_addSeries_57 : decode cX7_addSeries 57 = .ok (.istore 6, 2) := by decide +kernel
theorem dX7_addSeries_59 : decode cX7_addSeries 59 = .ok (.iload 6, 2) := by decide +kernel
theorem dX7_addSeries_61 : decode cX7_addSeries 61 = .ok (.iload 4, 2) := by decide +kernel
theorem dX7_addSeries_63 : decode cX7_addSeries 63 = .ok (.if_icmp .ge 59, 3) := by decide +kernel
theorem dX7_addSeries_66 : decode cX7_addSeries 66 = .ok (.iload_n 2, 1) := by decide +kernel
theorem dX7_addSeries_67 : decode cX7_addSeries 67 = .ok (.iload 6, 2) := by decide +kernel
theorem dX7_addSeries_69 : decode cX7_addSeries 69 = .ok (.iload_n 3, 1) := by decide +kernel
theorem dX7_addSeries_70 : decode cX7_addSeries 70 = .ok (.imul, 1) := by decide +kernel
theorem dX7_addSeries_71 : decode cX7_addSeries 71 = .ok (.iadd, 1) := by decide +kernel
theorem dX7_addSeries_72 : decode cX7_addSeries 72 = .ok (.sipush 9999, 3) := by decide +kernel
theorem dX7_addSeries_75 : decode cX7_addSeries 75 = .ok (.if_icmp .gt 47, 3) := by decide +kernel
theorem dX7_addSeries_78 : decode cX7_addSeries 78 = .ok (.aload_n 0, 1) := by decide +kernel
theorem dX7_addSeries_79 : decode cX7_addSeries 79 = .ok (.iload_n 1, 1) := by decide +kernel
theorem dX7_addSeries_80 : decode cX7_addSeries 80 = .ok (.invokevirtual 103, 3) := by decide +kernel
theorem dX7_addSeries_83 : decode cX7_addSeries 83 = .ok (.bipush 24, 2) := by decide +kernel
theorem dX7_addSeries_85 : decode cX7_addSeries 85 = .ok (.if_icmp .ge 37, 3) := by decide +kernel
theorem dX7_addSeries_88 : decode cX7_addSeries 88 = .ok (.aload_n 0, 1) := by decide +kernel
theorem dX7_addSeries_89 : decode cX7_addSeries 89 = .ok (.iload_n 1, 1) := by decide +kernel
theorem dX7_addSeries_90 : decode cX7_addSeries 90 = .ok (.iload_n 2, 1) := by decide +kernel
theorem dX7_addSeries_91 : decode cX7_addSeries 91 = .ok (.iload 6, 2) := by decide +kernel
theorem dX7_addSeries_93 : decode cX7_addSeries 93 = .ok (.iload_n 3, 1) := by decide +kernel
theorem dX7_addSeries_94 : decode cX7_addSeries 94 = .ok (.imul, 1) := by decide +kernel
theorem dX7_addSeries_95 : decode cX7_addSeries 95 = .ok (.iadd, 1) := by decide +kernel
theorem dX7_addSeries_96 : decode cX7_addSeries 96 = .ok (.invokevirtual 99, 3) := by decide +kernel
theorem dX7_addSeries_99 : decode cX7_addSeries 99 = .ok (.ifCond .ne 17, 3) := by decide +kernel
theorem dX7_addSeries_102 : decode cX7_addSeries 102 = .ok (.aload_n 0, 1) := by decide +kernel
theorem dX7_addSeries_103 : decode cX7_addSeries 103 = .ok (.iload_n 1, 1) := by decide +kernel
theorem dX7_addSeries_104 : decode cX7_addSeries 104 = .ok (.iload_n 2, 1) := by decide +kernel
theorem dX7_addSeries_105 : decode cX7_addSeries 105 = .ok (.iload 6, 2) := by decide +kernel
theorem dX7_addSeries_107 : decode cX7_addSeries 107 = .ok (.iload_n 3, 1) := by decide +kernel
theorem dX7_addSeries_108 : decode cX7_addSeries 108 = .ok (.imul, 1) := by decide +kernel
theorem dX7_addSeries_109 : decode cX7_addSeries 109 = .ok (.iadd, 1) := by decide +kernel
theorem dX7_addSeries_110 : decode cX7_addSeries 110 = .ok (.invokevirtual 106, 3) := by decide +kernel
theorem dX7_addSeries_113 : decode cX7_addSeries 113 = .ok (.iinc 5 1, 3) := by decide +kernel
theorem dX7_addSeries_116 : decode cX7_addSeries 116 = .ok (.iinc 6 1, 3) := by decide +kernel
theorem dX7_addSeries_119 : decode cX7_addSeries 119 = .ok (.goto (-60), 3) := by decide +kernel
theorem dX7_addSeries_122 : decode cX7_addSeries 122 = .ok (.aload_n 0, 1) := by decide +kernel
theorem dX7_addSeries_123 : decode cX7_addSeries 123 = .ok (.iload 5, 2) := by decide +kernel
theorem dX7_addSeries_125 : decode cX7_addSeries 125 = .ok (.invokevirtual 90, 3) := by decide +kernel
theorem dX7_addSeries_128 : decode cX7_addSeries 128 = .ok (.ireturn, 1) := by decide +kernel
theorem dX7_setSizes_0 : decode cX7_setSizes 0 = .ok (.iload_n 1, 1) := by decide +kernel
theorem dX7_setSizes_1 : decode cX7_setSizes 1 = .ok (.iconst 1, 1) := by decide +kernel
theorem dX7_setSizes_2 : decode cX7_setSizes 2 = .ok (.bipush 8, 2) := by decide +kernel
theorem dX7_setSizes_4 : decode cX7_setSizes 4 = .ok (.invokestatic 42, 3) := by decide +kernel
theorem dX7_setSizes_7 : decode cX7_setSizes 7 = .ok (.ifCond .eq 12, 3) := by decide +kernel
theorem dX7_setSizes_10 : decode cX7_setSizes 10 = .ok (.iload_n 2, 1) := by decide +kernel
theorem dX7_setSizes_11 : decode cX7_setSizes 11 = .ok (.iconst 2, 1) := by decide +kernel
theorem dX7_setSizes_12 : decode cX7_setSizes 12 = .ok (.iconst 5, 1) := by decide +kernel
theorem dX7_setSizes_13 : decode cX7_setSizes 13 = .ok (.invokestatic 42, 3) := by decide +kernel
theorem dX7_setSizes_16 : decode cX7_setSizes 16 = .ok (.ifCond .ne 9, 3) := by decide +kernel
theorem dX7_setSizes_19 : decode cX7_setSizes 19 = .ok (.aload_n 0, 1) := by decide +kernel
theorem dX7_setSizes_20 : decode cX7_setSizes 20 = .ok (.iconst 1, 1) := by decide +kernel
theorem dX7_setSizes_21 : decode cX7_setSizes 21 = .ok (.invokevirtual 84, 3) := by decide +kernel
theorem dX7_setSizes_24 : decode cX7_setSizes 24 = .ok (.ireturn, 1) := by decide +kernel
theorem dX7_setSizes_25 : decode cX7_setSizes 25 = .ok (.aload_n 0, 1) := by decide +kernel
theorem dX7_setSizes_26 : decode cX7_setSizes 26 = .ok (.invokevirtual 87, 3) := by decide +kernel
theorem dX7_setSizes_29 : decode cX7_setSizes 29 = .ok (.bipush 10, 2) := by decide +kernel
theorem dX7_setSizes_31 : decode cX7_setSizes 31 = .ok (.aload_n 0, 1) := by decide +kernel
theorem dX7_setSizes_32 : decode cX7_setSizes 32 = .ok (.getfield 7, 3) := by decide +kernel
theorem dX7_setSizes_35 : decode cX7_setSizes 35 = .ok (.iconst 1, 1) := by decide +kernel
theorem dX7_setSizes_36 : decode cX7_setSizes 36 = .ok (.iaload, 1) := by decide +kernel
theorem dX7_setSizes_37 : decode cX7_setSizes 37 = .ok (.imul, 1) := by decide +kernel
theorem dX7_setSizes_38 : decode cX7_setSizes 38 = .ok (.aload_n 0, 1) := by decide +kernel
theorem dX7_setSizes_39 : decode cX7_setSizes 39 = .ok (.getfield 7, 3) := by decide +kernel
theorem dX7_setSizes_42 : decode cX7_setSizes 42 = .ok (.iconst 2, 1) := by decide +kernel
theorem dX7_setSizes_43 : decode cX7_setSizes 43 = .ok (.iaload, 1) := by decide +kernel
theorem dX7_setSizes_44 : decode cX7_setSizes 44 = .ok (.iadd, 1) := by decide +kernel
theorem dX7_setSizes_45 : decode cX7_setSizes 45 = .ok (.istore_n 3, 1) := by decide +kernel
theorem dX7_setSizes_46 : decode cX7_setSizes 46 = .ok (.aload_n 0, 1) := by decide +kernel
theorem dX7_setSizes_47 : decode cX7_setSizes 47 = .ok (.getfield 7, 3) := by decide +kernel
theorem dX7_setSizes_50 : decode cX7_setSizes 50 = .ok (.iconst 1, 1) := by decide +kernel
theorem dX7_setSizes_51 : decode cX7_setSizes 51 = .ok (.iload_n 1, 1) := by decide +kernel
theorem dX7_setSizes_52 : decode cX7_setSizes 52 = .ok (.iastore, 1) := by decide +kernel
theorem dX7_setSizes_53 : decode cX7_setSizes 53 = .ok (.aload_n 0, 1) := by decide +kernel
theorem dX7_setSizes_54 : decode cX7_setSizes 54 = .ok (.getfield 7, 3) := by decide +kernel
theorem dX7_setSizes_57 : decode cX7_setSizes 57 = .ok (.iconst 2, 1) := by decide +kernel
theorem dX7_setSizes_58 : decode cX7_setSizes 58 = .ok (.iload_n 2, 1) := by decide +kernel
theorem dX7_setSizes_59 : decode cX7_setSizes 59 = .ok (.iastore, 1) := by decide +kernel
theorem dX7_setSizes_60 : decode cX7_setSizes 60 = .ok (.aload_n 0, 1) := by decide +kernel
theorem dX7_setSizes_61 : decode cX7_setSizes 61 = .ok (.iload_n 3, 1) := by decide +kernel
theorem dX7_setSizes_62 : decode cX7_setSizes 62 = .ok (.invokevirtual 90, 3) := by decide +kernel
theorem dX7_setSizes_65 : decode cX7_setSizes 65 = .ok (.ireturn, 1) := by decide +kernel
theorem dX7_rebuild_0 : decode cX7_rebuild 0 = .ok (.aload_n 0, 1) := by decide +kernel
theorem dX7_rebuild_1 : decode cX7_rebuild 1 = .ok (.iload_n 1, 1) := by decide +kernel
theorem dX7_rebuild_2 : decode cX7_rebuild 2 = .ok (.invokevirtual 80, 3) := by decide +kernel
theorem dX7_rebuild_5 : decode cX7_rebuild 5 = .ok (.ifCond .ne 9, 3) := by decide +kernel
theorem dX7_rebuild_8 : decode cX7_rebuild 8 = .ok (.aload_n 0, 1) := by decide +kernel
theorem dX7_rebuild_9 : decode cX7_rebuild 9 = .ok (.iconst 1, 1) := by decide +kernel
theorem dX7_rebuild_10 : decode cX7_rebuild 10 = .ok (.invokevirtual 84, 3) := by decide +kernel
theorem dX7_rebuild_13 : decode cX7_rebuild 13 = .ok (.ireturn, 1) := by decide +kernel
theorem dX7_rebuild_14 : decode cX7_rebuild 14 = .ok (.aload_n 0, 1) := by decide +kernel
theorem dX7_rebuild_15 : decode cX7_rebuild 15 = .ok (.invokevirtual 87, 3) := by decide +kernel
theorem dX7_rebuild_18 : decode cX7_rebuild 18 = .ok (.aload_n 0, 1) := by decide +kernel
theorem dX7_rebuild_19 : decode cX7_rebuild 19 = .ok (.aload_n 0, 1) := by decide +kernel
theorem dX7_rebuild_20 : decode cX7_rebuild 20 = .ok (.iload_n 1, 1) := by decide +kernel
theorem dX7_rebuild_21 : decode cX7_rebuild 21 = .ok (.invokevirtual 93, 3) := by decide +kernel
theorem dX7_rebuild_24 : decode cX7_rebuild 24 = .ok (.invokevirtual 90, 3) := by decide +kernel
theorem dX7_rebuild_27 : decode cX7_rebuild 27 = .ok (.ireturn, 1) := by decide +kernel
theorem dX7_entriesOfAll_0 : decode cX7_entriesOfAll 0 = .ok (.iconst 0, 1) := by decide +kernel
theorem dX7_entriesOfAll_1 : decode cX7_entriesOfAll 1 = .ok (.istore_n 1, 1) := by decide +kernel
theorem dX7_entriesOfAll_2 : decode cX7_entriesOfAll 2 = .ok (.iconst 0, 1) := by decide +kernel
theorem dX7_entriesOfAll_3 : decode cX7_entriesOfAll 3 = .ok (.istore_n 2, 1) := by decide +kernel
theorem dX7_entriesOfAll_4 : decode cX7_entriesOfAll 4 = .ok (.iload_n 2, 1) := by decide +kernel
theorem dX7_entriesOfAll_5 : decode cX7_entriesOfAll 5 = .ok (.aload_n 0, 1) := by decide +kernel
theorem dX7_entriesOfAll_6 : decode cX7_entriesOfAll 6 = .ok (.getfield 7, 3) := by decide +kernel
theorem dX7_entriesOfAll_9 : decode cX7_entriesOfAll 9 = .ok (.iconst 0, 1) := by decide +kernel
theorem dX7_entriesOfAll_10 : decode cX7_entriesOfAll 10 = .ok (.iaload, 1) := by decide +kernel
theorem dX7_entriesOfAll_11 : decode cX7_entriesOfAll 11 = .ok (.if_icmp .ge 19, 3) := by decide +kernel
theorem dX7_entriesOfAll_14 : decode cX7_entriesOfAll 14 = .ok (.iload_n 1, 1) := by decide +kernel
theorem dX7_entriesOfAll_15 : decode cX7_entriesOfAll 15 = .ok (.aload_n 0, 1) := by decide +kernel
theorem dX7_entriesOfAll_16 : decode cX7_entriesOfAll 16 = .ok (.iload_n 2, 1) := by decide +kernel
theorem dX7_entriesOfAll_17 : decode cX7_entriesOfAll 17 = .ok (.bipush 61, 2) := by decide +kernel
theorem dX7_entriesOfAll_19 : decode cX7_entriesOfAll 19 = .ok (.invokevirtual 46, 3) := by decide +kernel
theorem dX7_entriesOfAll_22 : decode cX7_entriesOfAll 22 = .ok (.iadd, 1) := by decide +kernel
theorem dX7_entriesOfAll_23 : decode cX7_entriesOfAll 23 = .ok (.istore_n 1, 1) := by decide +kernel
theorem dX7_entriesOfAll_24 : decode cX7_entriesOfAll 24 = .ok (.iinc 2 1, 3) := by decide +kernel
theorem dX7_entriesOfAll_27 : decode cX7_entriesOfAll 27 = .ok (.goto (-23), 3) := by decide +kernel
theorem dX7_entriesOfAll_30 : decode cX7_entriesOfAll 30 = .ok (.iload_n 1, 1) := by decide +kernel
theorem dX7_entriesOfAll_31 : decode cX7_entriesOfAll 31 = .ok (.ireturn, 1) := by decide +kernel
theorem dX7_rebuildAll_0 : decode cX7_rebuildAll 0 = .ok (.aload_n 0, 1) := by decide +kernel
theorem dX7_rebuildAll_1 : decode cX7_rebuildAll 1 = .ok (.invokevirtual 87, 3) := by decide +kernel
theorem dX7_rebuildAll_4 : decode cX7_rebuildAll 4 = .ok (.iconst 0, 1) := by decide +kernel
theorem dX7_rebuildAll_5 : decode cX7_rebuildAll 5 = .ok (.istore_n 1, 1) := by decide +kernel
theorem dX7_rebuildAll_6 : decode cX7_rebuildAll 6 = .ok (.aload_n 0, 1) := by decide +kernel
theorem dX7_rebuildAll_7 : decode cX7_rebuildAll 7 = .ok (.getfield 7, 3) := by decide +kernel
theorem dX7_rebuildAll_10 : decode cX7_rebuildAll 10 = .ok (.iconst 0, 1) := by decide +kernel
theorem dX7_rebuildAll_11 : decode cX7_rebuildAll 11 = .ok (.iaload, 1) := by decide +kernel
theorem dX7_rebuildAll_12 : decode cX7_rebuildAll 12 = .ok (.iconst 1, 1) := by decide +kernel
theorem dX7_rebuildAll_13 : decode cX7_rebuildAll 13 = .ok (.isub, 1) := by decide +kernel
theorem dX7_rebuildAll_14 : decode cX7_rebuildAll 14 = .ok (.istore_n 2, 1) := by decide +kernel
theorem dX7_rebuildAll_15 : decode cX7_rebuildAll 15 = .ok (.iload_n 2, 1) := by decide +kernel
theorem dX7_rebuildAll_16 : decode cX7_rebuildAll 16 = .ok (.ifCond .lt 17, 3) := by decide +kernel
theorem dX7_rebuildAll_19 : decode cX7_rebuildAll 19 = .ok (.iload_n 1, 1) := by decide +kernel
theorem dX7_rebuildAll_20 : decode cX7_rebuildAll 20 = .ok (.aload_n 0, 1) := by decide +kernel
theorem dX7_rebuildAll_21 : decode cX7_rebuildAll 21 = .ok (.iload_n 2, 1) := by decide +kernel
theorem dX7_rebuildAll_22 : decode cX7_rebuildAll 22 = .ok (.invokevirtual 93, 3) := by decide +kernel
theorem dX7_rebuildAll_25 : decode cX7_rebuildAll 25 = .ok (.iadd, 1) := by decide +kernel
theorem dX7_rebuildAll_26 : decode cX7_rebuildAll 26 = .ok (.istore_n 1, 1) := by decide +kernel
theorem dX7_rebuildAll_27 : decode cX7_rebuildAll 27 = .ok (.iinc 2 (-1), 3) := by decide +kernel
theorem dX7_rebuildAll_30 : decode cX7_rebuildAll 30 = .ok (.goto (-15), 3) := by decide +kernel
theorem dX7_rebuildAll_33 : decode cX7_rebuildAll 33 = .ok (.aload_n 0, 1) := by decide +kernel
theorem dX7_rebuildAll_34 : decode cX7_rebuildAll 34 = .ok (.iload_n 1, 1) := by decide +kernel
theorem dX7_rebuildAll_35 : decode cX7_rebuildAll 35 = .ok (.ifCond .ge 7, 3) := by decide +kernel
theorem dX7_rebuildAll_38 : decode cX7_rebuildAll 38 = .ok (.iload_n 1, 1) := by decide +kernel
theorem dX7_rebuildAll_39 : decode cX7_rebuildAll 39 = .ok (.goto 7, 3) := by decide +kernel
theorem dX7_rebuildAll_42 : decode cX7_rebuildAll 42 = .ok (.aload_n 0, 1) := by decide +kernel
theorem dX7_rebuildAll_43 : decode cX7_rebuildAll 43 = .ok (.invokevirtual 113, 3) := by decide +kernel
theorem dX7_rebuildAll_46 : decode cX7_rebuildAll 46 = .ok (.invokevirtual 90, 3) := by decide +kernel
theorem dX7_rebuildAll_49 : decode cX7_rebuildAll 49 = .ok (.ireturn, 1) := by decide +kernel
theorem dX7_lays_0 : decode cX7_lays 0 = .ok (.aload_n 0, 1) := by decide +kernel
theorem dX7_lays_1 : decode cX7_lays 1 = .ok (.iconst 0, 1) := by decide +kernel
theorem dX7_lays_2 : decode cX7_lays 2 = .ok (.putfield 117, 3) := by decide +kernel
theorem dX7_lays_5 : decode cX7_lays 5 = .ok (.iload_n 1, 1) := by decide +kernel
theorem dX7_lays_6 : decode cX7_lays 6 = .ok (.istore_n 2, 1) := by decide +kernel
theorem dX7_lays_7 : decode cX7_lays 7 = .ok (.iload_n 2, 1) := by decide +kernel
theorem dX7_lays_8 : decode cX7_lays 8 = .ok (.iconst (-1), 1) := by decide +kernel
theorem dX7_lays_9 : decode cX7_lays 9 = .ok (.if_icmp .eq 23, 3) := by decide +kernel
theorem dX7_lays_12 : decode cX7_lays 12 = .ok (.aload_n 0, 1) := by decide +kernel
theorem dX7_lays_13 : decode cX7_lays 13 = .ok (.dup, 1) := by decide +kernel
theorem dX7_lays_14 : decode cX7_lays 14 = .ok (.getfield 117, 3) := by decide +kernel
theorem dX7_lays_17 : decode cX7_lays 17 = .ok (.iconst 1, 1) := by decide +kernel
theorem dX7_lays_18 : decode cX7_lays 18 = .ok (.iadd, 1) := by decide +kernel
theorem dX7_lays_19 : decode cX7_lays 19 = .ok (.putfield 117, 3) := by decide +kernel
theorem dX7_lays_22 : decode cX7_lays 22 = .ok (.aload_n 0, 1) := by decide +kernel
theorem dX7_lays_23 : decode cX7_lays 23 = .ok (.iload_n 2, 1) := by decide +kernel
theorem dX7_lays_24 : decode cX7_lays 24 = .ok (.iconst 0, 1) := by decide +kernel
theorem dX7_lays_25 : decode cX7_lays 25 = .ok (.invokevirtual 46, 3) := by decide +kernel
theorem dX7_lays_28 : decode cX7_lays 28 = .ok (.istore_n 2, 1) := by decide +kernel
theorem dX7_lays_29 : decode cX7_lays 29 = .ok (.goto (-22), 3) := by decide +kernel
theorem dX7_lays_32 : decode cX7_lays 32 = .ok (.iload_n 1, 1) := by decide +kernel
theorem dX7_lays_33 : decode cX7_lays 33 = .ok (.istore_n 2, 1) := by decide +kernel
theorem dX7_lays_34 : decode cX7_lays 34 = .ok (.aload_n 0, 1) := by decide +kernel
theorem dX7_lays_35 : decode cX7_lays 35 = .ok (.getfield 117, 3) := by decide +kernel
theorem dX7_lays_38 : decode cX7_lays 38 = .ok (.iconst 1, 1) := by decide +kernel
theorem dX7_lays_39 : decode cX7_lays 39 = .ok (.isub, 1) := by decide +kernel
theorem dX7_lays_40 : decode cX7_lays 40 = .ok (.istore_n 3, 1) := by decide +kernel
theorem dX7_lays_41 : decode cX7_lays 41 = .ok (.iload_n 3, 1) := by decide +kernel
theorem dX7_lays_42 : decode cX7_lays 42 = .ok (.ifCond .lt 23, 3) := by decide +kernel
theorem dX7_lays_45 : decode cX7_lays 45 = .ok (.aload_n 0, 1) := by decide +kernel
theorem dX7_lays_46 : decode cX7_lays 46 = .ok (.getfield 22, 3) := by decide +kernel
theorem dX7_lays_49 : decode cX7_lays 49 = .ok (.iload_n 3, 1) := by decide +kernel
theorem dX7_lays_50 : decode cX7_lays 50 = .ok (.iload_n 2, 1) := by decide +kernel
theorem dX7_lays_51 : decode cX7_lays 51 = .ok (.iastore, 1) := by decide +kernel
theorem dX7_lays_52 : decode cX7_lays 52 = .ok (.aload_n 0, 1) := by decide +kernel
theorem dX7_lays_53 : decode cX7_lays 53 = .ok (.iload_n 2, 1) := by decide +kernel
theorem dX7_lays_54 : decode cX7_lays 54 = .ok (.iconst 0, 1) := by decide +kernel
theorem dX7_lays_55 : decode cX7_lays 55 = .ok (.invokevirtual 46, 3) := by decide +kernel
theorem dX7_lays_58 : decode cX7_lays 58 = .ok (.istore_n 2, 1) := by decide +kernel
theorem dX7_lays_59 : decode cX7_lays 59 = .ok (.iinc 3 (-1), 3) := by decide +kernel
theorem dX7_lays_62 : decode cX7_lays 62 = .ok (.goto (-21), 3) := by decide +kernel
theorem dX7_lays_65 : decode cX7_lays 65 = .ok (.return_, 1) := by decide +kernel
theorem dX7_halves_0 : decode cX7_halves 0 = .ok (.iconst 0, 1) := by decide +kernel
theorem dX7_halves_1 : decode cX7_halves 1 = .ok (.istore 5, 2) := by decide +kernel
theorem dX7_halves_3 : decode cX7_halves 3 = .ok (.iload_n 3, 1) := by decide +kernel
theorem dX7_halves_4 : decode cX7_halves 4 = .ok (.istore 6, 2) := by decide +kernel
theorem dX7_halves_6 : decode cX7_halves 6 = .ok (.iload 5, 2) := by decide +kernel
theorem dX7_halves_8 : decode cX7_halves 8 = .ok (.iload 6, 2) := by decide +kernel
theorem dX7_halves_10 : decode cX7_halves 10 = .ok (.if_icmp .ge 52, 3) := by decide +kernel
theorem dX7_halves_13 : decode cX7_halves 13 = .ok (.iload 5, 2) := by decide +kernel
theorem dX7_halves_15 : decode cX7_halves 15 = .ok (.iload 6, 2) := by decide +kernel
theorem dX7_halves_17 : decode cX7_halves 17 = .ok (.iadd, 1) := by decide +kernel
theorem dX7_halves_18 : decode cX7_halves 18 = .ok (.iconst 2, 1) := by decide +kernel
theorem dX7_halves_19 : decode cX7_halves 19 = .ok (.idiv, 1) := by decide +kernel
theorem dX7_halves_20 : decode cX7_halves 20 = .ok (.istore 7, 2) := by decide +kernel
theorem dX7_halves_22 : decode cX7_halves 22 = .ok (.aload_n 0, 1) := by decide +kernel
theorem dX7_halves_23 : decode cX7_halves 23 = .ok (.dup, 1) := by decide +kernel
theorem dX7_halves_24 : decode cX7_halves 24 = .ok (.getfield 120, 3) := by decide +kernel
theorem dX7_halves_27 : decode cX7_halves 27 = .ok (.iconst 1, 1) := by decide +kernel
theorem dX7_halves_28 : decode cX7_halves 28 = .ok (.iadd, 1) := by decide +kernel
theorem dX7_halves_29 : decode cX7_halves 29 = .ok (.putfield 120, 3) := by decide +kernel
theorem dX7_halves_32 : decode cX7_halves 32 = .ok (.aload_n 0, 1) := by decide +kernel
theorem dX7_halves_33 : decode cX7_halves 33 = .ok (.iload_n 1, 1) := by decide +kernel
theorem dX7_halves_34 : decode cX7_halves 34 = .ok (.iload_n 2, 1) := by decide +kernel
theorem dX7_halves_35 : decode cX7_halves 35 = .ok (.iload 7, 2) := by decide +kernel
theorem dX7_halves_37 : decode cX7_halves 37 = .ok (.iadd, 1) := by decide +kernel
theorem dX7_halves_38 : decode cX7_halves 38 = .ok (.invokevirtual 46, 3) := by decide +kernel
theorem dX7_halves_41 : decode cX7_halves 41 = .ok (.iload 4, 2) := by decide +kernel
theorem dX7_halves_43 : decode cX7_halves 43 = .ok (.if_icmp .lt 10, 3) := by decide +kernel
theorem dX7_halves_46 : decode cX7_halves 46 = .ok (.iload 7, 2) := by decide +kernel
theorem dX7_halves_48 : decode cX7_halves 48 = .ok (.istore 6, 2) := by decide +kernel
theorem dX7_halves_50 : decode cX7_halves 50 = .ok (.goto 9, 3) := by decide +kernel
theorem dX7_halves_53 : decode cX7_halves 53 = .ok (.iload 7, 2) := by decide +kernel
theorem dX7_halves_55 : decode cX7_halves 55 = .ok (.iconst 1, 1) := by decide +kernel
theorem dX7_halves_56 : decode cX7_halves 56 = .ok (.iadd, 1) := by decide +kernel
theorem dX7_halves_57 : decode cX7_halves 57 = .ok (.istore 5, 2) := by decide +kernel
theorem dX7_halves_59 : decode cX7_halves 59 = .ok (.goto (-53), 3) := by decide +kernel
theorem dX7_halves_62 : decode cX7_halves 62 = .ok (.iload 5, 2) := by decide +kernel
theorem dX7_halves_64 : decode cX7_halves 64 = .ok (.ireturn, 1) := by decide +kernel
theorem dX7_answerFrom_0 : decode cX7_answerFrom 0 = .ok (.iload_n 2, 1) := by decide +kernel
theorem dX7_answerFrom_1 : decode cX7_answerFrom 1 = .ok (.istore 4, 2) := by decide +kernel
theorem dX7_answerFrom_3 : decode cX7_answerFrom 3 = .ok (.iload 4, 2) := by decide +kernel
theorem dX7_answerFrom_5 : decode cX7_answerFrom 5 = .ok (.aload_n 0, 1) := by decide +kernel
theorem dX7_answerFrom_6 : decode cX7_answerFrom 6 = .ok (.iload_n 1, 1) := by decide +kernel
theorem dX7_answerFrom_7 : decode cX7_answerFrom 7 = .ok (.iconst 3, 1) := by decide +kernel
theorem dX7_answerFrom_8 : decode cX7_answerFrom 8 = .ok (.invokevirtual 46, 3) := by decide +kernel
theorem dX7_answerFrom_11 : decode cX7_answerFrom 11 = .ok (.if_icmp .ge 33, 3) := by decide +kernel
theorem dX7_answerFrom_14 : decode cX7_answerFrom 14 = .ok (.aload_n 0, 1) := by decide +kernel
theorem dX7_answerFrom_15 : decode cX7_answerFrom 15 = .ok (.iload_n 1, 1) := by decide +kernel
theorem dX7_answerFrom_16 : decode cX7_answerFrom 16 = .ok (.bipush 28, 2) := by decide +kernel
theorem dX7_answerFrom_18 : decode cX7_answerFrom 18 = .ok (.iload 4, 2) := by decide +kernel
theorem dX7_answerFrom_20 : decode cX7_answerFrom 20 = .ok (.iadd, 1) := by decide +kernel
theorem dX7_answerFrom_21 : decode cX7_answerFrom 21 = .ok (.invokevirtual 46, 3) := by decide +kernel
theorem dX7_answerFrom_24 : decode cX7_answerFrom 24 = .ok (.iconst 1, 1) := by decide +kernel
theorem dX7_answerFrom_25 : decode cX7_answerFrom 25 = .ok (.if_icmp .ne 19, 3) := by decide +kernel
theorem dX7_answerFrom_28 : decode cX7_answerFrom 28 = .ok (.aload_n 0, 1) := by decide +kernel
theorem dX7_answerFrom_29 : decode cX7_answerFrom 29 = .ok (.dup, 1) := by decide +kernel
theorem dX7_answerFrom_30 : decode cX7_answerFrom 30 = .ok (.getfield 120, 3) := by decide +kernel
theorem dX7_answerFrom_33 : decode cX7_answerFrom 33 = .ok (.iconst 1, 1) := by decide +kernel
theorem dX7_answerFrom_34 : decode cX7_answerFrom 34 = .ok (.iadd, 1) := by decide +kernel
theorem dX7_answerFrom_35 : decode cX7_answerFrom 35 = .ok (.putfield 120, 3) := by decide +kernel
theorem dX7_answerFrom_38 : decode cX7_answerFrom 38 = .ok (.iinc 4 1, 3) := by decide +kernel
theorem dX7_answerFrom_41 : decode cX7_answerFrom 41 = .ok (.goto (-38), 3) := by decide +kernel
theorem dX7_answerFrom_44 : decode cX7_answerFrom 44 = .ok (.iload 4, 2) := by decide +kernel
theorem dX7_answerFrom_46 : decode cX7_answerFrom 46 = .ok (.aload_n 0, 1) := by decide +kernel
theorem dX7_answerFrom_47 : decode cX7_answerFrom 47 = .ok (.iload_n 1, 1) := by decide +kernel
theorem dX7_answerFrom_48 : decode cX7_answerFrom 48 = .ok (.iconst 3, 1) := by decide +kernel
theorem dX7_answerFrom_49 : decode cX7_answerFrom 49 = .ok (.invokevirtual 46, 3) := by decide +kernel
theorem dX7_answerFrom_52 : decode cX7_answerFrom 52 = .ok (.if_icmp .ge 15, 3) := by decide +kernel
theorem dX7_answerFrom_55 : decode cX7_answerFrom 55 = .ok (.aload_n 0, 1) := by decide +kernel
theorem dX7_answerFrom_56 : decode cX7_answerFrom 56 = .ok (.iload_n 1, 1) := by decide +kernel
theorem dX7_answerFrom_57 : decode cX7_answerFrom 57 = .ok (.iconst 4, 1) := by decide +kernel
theorem dX7_answerFrom_58 : decode cX7_answerFrom 58 = .ok (.iload 4, 2) := by decide +kernel
theorem dX7_answerFrom_60 : decode cX7_answerFrom 60 = .ok (.iadd, 1) := by decide +kernel
theorem dX7_answerFrom_61 : decode cX7_answerFrom 61 = .ok (.invokevirtual 46, 3) := by decide +kernel
theorem dX7_answerFrom_64 : decode cX7_answerFrom 64 = .ok (.goto 4, 3) := by decide +kernel
theorem dX7_answerFrom_67 : decode cX7_answerFrom 67 = .ok (.iconst (-1), 1) := by decide +kernel
theorem dX7_answerFrom_68 : decode cX7_answerFrom 68 = .ok (.istore 5, 2) := by decide +kernel
theorem dX7_answerFrom_70 : decode cX7_answerFrom 70 = .ok (.iconst 0, 1) := by decide +kernel
theorem dX7_answerFrom_71 : decode cX7_answerFrom 71 = .ok (.istore 6, 2) := by decide +kernel
theorem dX7_answerFrom_73 : decode cX7_answerFrom 73 = .ok (.iload 6, 2) := by decide +kernel
theorem dX7_answerFrom_75 : decode cX7_answerFrom 75 = .ok (.aload_n 0, 1) := by decide +kernel
theorem dX7_answerFrom_76 : decode cX7_answerFrom 76 = .ok (.iload_n 1, 1) := by decide +kernel
theorem dX7_answerFrom_77 : decode cX7_answerFrom 77 = .ok (.bipush 52, 2) := by decide +kernel
theorem dX7_answerFrom_79 : decode cX7_answerFrom 79 = .ok (.invokevirtual 46, 3) := by decide +kernel
theorem dX7_answerFrom_82 : decode cX7_answerFrom 82 = .ok (.if_icmp .ge 59, 3) := by decide +kernel
theorem dX7_answerFrom_85 : decode cX7_answerFrom 85 = .ok (.aload_n 0, 1) := by decide +kernel
theorem dX7_answerFrom_86 : decode cX7_answerFrom 86 = .ok (.iload_n 1, 1) := by decide +kernel
theorem dX7_answerFrom_87 : decode cX7_answerFrom 87 = .ok (.bipush 53, 2) := by decide +kernel
theorem dX7_answerFrom_89 : decode cX7_answerFrom 89 = .ok (.iload 6, 2) := by decide +kernel
theorem dX7_answerFrom_91 : decode cX7_answerFrom 91 = .ok (.iadd, 1) := by decide +kernel
theorem dX7_answerFrom_92 : decode cX7_answerFrom 92 = .ok (.invokevirtual 46, 3) := by decide +kernel
theorem dX7_answerFrom_95 : decode cX7_answerFrom 95 = .ok (.istore 7, 2) := by decide +kernel
theorem dX7_answerFrom_97 : decode cX7_answerFrom 97 = .ok (.aload_n 0, 1) := by decide +kernel
theorem dX7_answerFrom_98 : decode cX7_answerFrom 98 = .ok (.dup, 1) := by decide +kernel
theorem dX7_answerFrom_99 : decode cX7_answerFrom 99 = .ok (.getfield 120, 3) := by decide +kernel
theorem dX7_answerFrom_102 : decode cX7_answerFrom 102 = .ok (.iconst 1, 1) := by decide +kernel
theorem dX7_answerFrom_103 : decode cX7_answerFrom 103 = .ok (.iadd, 1) := by decide +kernel
theorem dX7_answerFrom_104 : decode cX7_answerFrom 104 = .ok (.putfield 120, 3) := by decide +kernel
theorem dX7_answerFrom_107 : decode cX7_answerFrom 107 = .ok (.iload 7, 2) := by decide +kernel
theorem dX7_answerFrom_109 : decode cX7_answerFrom 109 = .ok (.iload_n 3, 1) := by decide +kernel
theorem dX7_answerFrom_110 : decode cX7_answerFrom 110 = .ok (.if_icmp .lt 21, 3) := by decide +kernel
theorem dX7_answerFrom_113 : decode cX7_answerFrom 113 = .ok (.iload 5, 2) := by decide +kernel
theorem dX7_answerFrom_115 : decode cX7_answerFrom 115 = .ok (.iconst (-1), 1) := by decide +kernel
theorem dX7_answerFrom_116 : decode cX7_answerFrom 116 = .ok (.if_icmp .eq 10, 3) := by decide +kernel
theorem dX7_answerFrom_119 : decode cX7_answerFrom 119 = .ok (.iload 7, 2) := by decide +kernel
theorem dX7_answerFrom_121 : decode cX7_answerFrom 121 = .ok (.iload 5, 2) := by decide +kernel
theorem dX7_answerFrom_123 : decode cX7_answerFrom 123 = .ok (.if_icmp .ge 8, 3) := by decide +kernel
theorem dX7_answerFrom_126 : decode cX7_answerFrom 126 = .ok (.iload 7, 2) := by decide +kernel
theorem dX7_answerFrom_128 : decode cX7_answerFrom 128 = .ok (.goto 5, 3) := by decide +kernel
theorem dX7_answerFrom_131 : decode cX7_answerFrom 131 = .ok (.iload 5, 2) := by decide +kernel
theorem dX7_answerFrom_133 : decode cX7_answerFrom 133 = .ok (.istore 5, 2) := by decide +kernel
theorem dX7_answerFrom_135 : decode cX7_answerFrom 135 = .ok (.iinc 6 1, 3) := by decide +kernel
theorem dX7_answerFrom_138 : decode cX7_answerFrom 138 = .ok (.goto (-65), 3) := by decide +kernel
theorem dX7_answerFrom_141 : decode cX7_answerFrom 141 = .ok (.iload 5, 2) := by decide +kernel
theorem dX7_answerFrom_143 : decode cX7_answerFrom 143 = .ok (.ireturn, 1) := by decide +kernel
theorem dX7_seeks_0 : decode cX7_seeks 0 = .ok (.aload_n 0, 1) := by decide +kernel
theorem dX7_seeks_1 : decode cX7_seeks 1 = .ok (.iconst 0, 1) := by decide +kernel
theorem dX7_seeks_2 : decode cX7_seeks 2 = .ok (.putfield 120, 3) := by decide +kernel
theorem dX7_seeks_5 : decode cX7_seeks 5 = .ok (.iconst 0, 1) := by decide +kernel
theorem dX7_seeks_6 : decode cX7_seeks 6 = .ok (.istore_n 2, 1) := by decide +kernel
theorem dX7_seeks_7 : decode cX7_seeks 7 = .ok (.iload_n 2, 1) := by decide +kernel
theorem dX7_seeks_8 : decode cX7_seeks 8 = .ok (.aload_n 0, 1) := by decide +kernel
theorem dX7_seeks_9 : decode cX7_seeks 9 = .ok (.getfield 117, 3) := by decide +kernel
theorem dX7_seeks_12 : decode cX7_seeks 12 = .ok (.if_icmp .ge 134, 3) := by decide +kernel
theorem dX7_seeks_15 : decode cX7_seeks 15 = .ok (.aload_n 0, 1) := by decide +kernel
theorem dX7_seeks_16 : decode cX7_seeks 16 = .ok (.getfield 22, 3) := by decide +kernel
theorem dX7_seeks_19 : decode cX7_seeks 19 = .ok (.iload_n 2, 1) := by decide +kernel
theorem dX7_seeks_20 : decode cX7_seeks 20 = .ok (.iaload, 1) := by decide +kernel
theorem dX7_seeks_21 : decode cX7_seeks 21 = .ok (.istore_n 3, 1) := by decide +kernel
theorem dX7_seeks_22 : decode cX7_seeks 22 = .ok (.iload_n 2, 1) := by decide +kernel
theorem dX7_seeks_23 : decode cX7_seeks 23 = .ok (.ifCond .ne 23, 3) := by decide +kernel
theorem dX7_seeks_26 : decode cX7_seeks 26 = .ok (.aload_n 0, 1) := by decide +kernel
theorem dX7_seeks_27 : decode cX7_seeks 27 = .ok (.iload_n 3, 1) := by decide +kernel
theorem dX7_seeks_28 : decode cX7_seeks 28 = .ok (.bipush 62, 2) := by decide +kernel
theorem dX7_seeks_30 : decode cX7_seeks 30 = .ok (.aload_n 0, 1) := by decide +kernel
theorem dX7_seeks_31 : decode cX7_seeks 31 = .ok (.iload_n 3, 1) := by decide +kernel
theorem dX7_seeks_32 : decode cX7_seeks 32 = .ok (.bipush 61, 2) := by decide +kernel
theorem dX7_seeks_34 : decode cX7_seeks 34 = .ok (.invokevirtual 46, 3) := by decide +kernel
theorem dX7_seeks_37 : decode cX7_seeks 37 = .ok (.iload_n 1, 1) := by decide +kernel
theorem dX7_seeks_38 : decode cX7_seeks 38 = .ok (.invokevirtual 123, 3) := by decide +kernel
theorem dX7_seeks_41 : decode cX7_seeks 41 = .ok (.istore 4, 2) := by decide +kernel
theorem dX7_seeks_43 : decode cX7_seeks 43 = .ok (.goto 64, 3) := by decide +kernel
theorem dX7_seeks_46 : decode cX7_seeks 46 = .ok (.aload_n 0, 1) := by decide +kernel
theorem dX7_seeks_47 : decode cX7_seeks 47 = .ok (.aload_n 0, 1) := by decide +kernel
theorem dX7_seeks_48 : decode cX7_seeks 48 = .ok (.getfield 22, 3) := by decide +kernel
theorem dX7_seeks_51 : decode cX7_seeks 51 = .ok (.iload_n 2, 1) := by decide +kernel
theorem dX7_seeks_52 : decode cX7_seeks 52 = .ok (.iconst 1, 1) := by decide +kernel
theorem dX7_seeks_53 : decode cX7_seeks 53 = .ok (.isub, 1) := by decide +kernel
theorem dX7_seeks_54 : decode cX7_seeks 54 = .ok (.iaload, 1) := by decide +kernel
theorem dX7_seeks_55 : decode cX7_seeks 55 = .ok (.iconst 1, 1) := by decide +kernel
theorem dX7_seeks_56 : decode cX7_seeks 56 = .ok (.invokevirtual 46, 3) := by decide +kernel
theorem dX7_seeks_59 : decode cX7_seeks 59 = .ok (.iload_n 3, 1) := by decide +kernel
theorem dX7_seeks_60 : decode cX7_seeks 60 = .ok (.if_icmp .ne 7, 3) := by decide +kernel
theorem dX7_seeks_63 : decode cX7_seeks 63 = .ok (.iconst 1, 1) := by decide +kernel
theorem dX7_seeks_64 : decode cX7_seeks 64 = .ok (.goto 4, 3) := by decide +kernel
theorem dX7_seeks_67 : decode cX7_seeks 67 = .ok (.iconst 2, 1) := by decide +kernel
theorem dX7_seeks_68 : decode cX7_seeks 68 = .ok (.istore 5, 2) := by decide +kernel
theorem dX7_seeks_70 : decode cX7_seeks 70 = .ok (.aload_n 0, 1) := by decide +kernel
theorem dX7_seeks_71 : decode cX7_seeks 71 = .ok (.iload_n 3, 1) := by decide +kernel
theorem dX7_seeks_72 : decode cX7_seeks 72 = .ok (.aload_n 0, 1) := by decide +kernel
theorem dX7_seeks_73 : decode cX7_seeks 73 = .ok (.aload_n 0, 1) := by decide +kernel
theorem dX7_seeks_74 : decode cX7_seeks 74 = .ok (.getfield 22, 3) := by decide +kernel
theorem dX7_seeks_77 : decode cX7_seeks 77 = .ok (.iload_n 2, 1) := by decide +kernel
theorem dX7_seeks_78 : decode cX7_seeks 78 = .ok (.iconst 1, 1) := by decide +kernel
theorem dX7_seeks_79 : decode cX7_seeks 79 = .ok (.isub, 1) := by decide +kernel
theorem dX7_seeks_80 : decode cX7_seeks 80 = .ok (.iaload, 1) := by decide +kernel
theorem dX7_seeks_81 : decode cX7_seeks 81 = .ok (.sipush 254, 3) := by decide +kernel
theorem dX7_seeks_84 : decode cX7_seeks 84 = .ok (.iconst 3, 1) := by decide +kernel
theorem dX7_seeks_85 : decode cX7_seeks 85 = .ok (.aload_n 0, 1) := by decide +kernel
theorem dX7_seeks_86 : decode cX7_seeks 86 = .ok (.getfield 25, 3) := by decide +kernel
theorem dX7_seeks_89 : decode cX7_seeks 89 = .ok (.iload_n 2, 1) := by decide +kernel
theorem dX7_seeks_90 : decode cX7_seeks 90 = .ok (.iconst 1, 1) := by decide +kernel
theorem dX7_seeks_91 : decode cX7_seeks 91 = .ok (.isub, 1) := by decide +kernel
theorem dX7_seeks_92 : decode cX7_seeks 92 = .ok (.iaload, 1) := by decide +kernel
theorem dX7_seeks_93 : decode cX7_seeks 93 = .ok (.imul, 1) := by decide +kernel
theorem dX7_seeks_94 : decode cX7_seeks 94 = .ok (.iadd, 1) := by decide +kernel
theorem dX7_seeks_95 : decode cX7_seeks 95 = .ok (.iload 5, 2) := by decide +kernel
theorem dX7_seeks_97 : decode cX7_seeks 97 = .ok (.iadd, 1) := by decide +kernel
theorem dX7_seeks_98 : decode cX7_seeks 98 = .ok (.invokevirtual 46, 3) := by decide +kernel
theorem dX7_seeks_101 : decode cX7_seeks 101 = .ok (.iload_n 1, 1) := by decide +kernel
theorem dX7_seeks_102 : decode cX7_seeks 102 = .ok (.invokevirtual 127, 3) := by decide +kernel
theorem dX7_seeks_105 : decode cX7_seeks 105 = .ok (.istore 4, 2) := by decide +kernel
theorem dX7_seeks_107 : decode cX7_seeks 107 = .ok (.aload_n 0, 1) := by decide +kernel
theorem dX7_seeks_108 : decode cX7_seeks 108 = .ok (.getfield 25, 3) := by decide +kernel
theorem dX7_seeks_111 : decode cX7_seeks 111 = .ok (.iload_n 2, 1) := by decide +kernel
theorem dX7_seeks_112 : decode cX7_seeks 112 = .ok (.iload 4, 2) := by decide +kernel
theorem dX7_seeks_114 : decode cX7_seeks 114 = .ok (.iastore, 1) := by decide +kernel
theorem dX7_seeks_115 : decode cX7_seeks 115 = .ok (.aload_n 0, 1) := by decide +kernel
theorem dX7_seeks_116 : decode cX7_seeks 116 = .ok (.getfield 28, 3) := by decide +kernel
theorem dX7_seeks_119 : decode cX7_seeks 119 = .ok (.iload_n 2, 1) := by decide +kernel
theorem dX7_seeks_120 : decode cX7_seeks 120 = .ok (.aload_n 0, 1) := by decide +kernel
theorem dX7_seeks_121 : decode cX7_seeks 121 = .ok (.iload_n 3, 1) := by decide +kernel
theorem dX7_seeks_122 : decode cX7_seeks 122 = .ok (.aload_n 0, 1) := by decide +kernel
theorem dX7_seeks_123 : decode cX7_seeks 123 = .ok (.iload_n 3, 1) := by decide +kernel
theorem dX7_seeks_124 : decode cX7_seeks 124 = .ok (.sipush 254, 3) := by decide +kernel
theorem dX7_seeks_127 : decode cX7_seeks 127 = .ok (.iconst 3, 1) := by decide +kernel
theorem dX7_seeks_128 : decode cX7_seeks 128 = .ok (.iload 4, 2) := by decide +kernel
theorem dX7_seeks_130 : decode cX7_seeks 130 = .ok (.imul, 1) := by decide +kernel
theorem dX7_seeks_131 : decode cX7_seeks 131 = .ok (.iadd, 1) := by decide +kernel
theorem dX7_seeks_132 : decode cX7_seeks 132 = .ok (.invokevirtual 46, 3) := by decide +kernel
theorem dX7_seeks_135 : decode cX7_seeks 135 = .ok (.iload_n 1, 1) := by decide +kernel
theorem dX7_seeks_136 : decode cX7_seeks 136 = .ok (.invokevirtual 130, 3) := by decide +kernel
theorem dX7_seeks_139 : decode cX7_seeks 139 = .ok (.iastore, 1) := by decide +kernel
theorem dX7_seeks_140 : decode cX7_seeks 140 = .ok (.iinc 2 1, 3) := by decide +kernel
theorem dX7_seeks_143 : decode cX7_seeks 143 = .ok (.goto (-136), 3) := by decide +kernel
theorem dX7_seeks_146 : decode cX7_seeks 146 = .ok (.return_, 1) := by decide +kernel
theorem dX7_goesBack_0 : decode cX7_goesBack 0 = .ok (.iload_n 2, 1) := by decide +kernel
theorem dX7_goesBack_1 : decode cX7_goesBack 1 = .ok (.istore 4, 2) := by decide +kernel
theorem dX7_goesBack_3 : decode cX7_goesBack 3 = .ok (.iload 4, 2) := by decide +kernel
theorem dX7_goesBack_5 : decode cX7_goesBack 5 = .ok (.ifCond .le 7, 3) := by decide +kernel
theorem dX7_goesBack_8 : decode cX7_goesBack 8 = .ok (.iconst 1, 1) := by decide +kernel
theorem dX7_goesBack_9 : decode cX7_goesBack 9 = .ok (.goto 4, 3) := by decide +kernel
theorem dX7_goesBack_12 : decode cX7_goesBack 12 = .ok (.iconst 0, 1) := by decide +kernel
theorem dX7_goesBack_13 : decode cX7_goesBack 13 = .ok (.istore 5, 2) := by decide +kernel
theorem dX7_goesBack_15 : decode cX7_goesBack 15 = .ok (.iload 5, 2) := by decide +kernel
theorem dX7_goesBack_17 : decode cX7_goesBack 17 = .ok (.ifCond .eq 71, 3) := by decide +kernel
theorem dX7_goesBack_20 : decode cX7_goesBack 20 = .ok (.aload_n 0, 1) := by decide +kernel
theorem dX7_goesBack_21 : decode cX7_goesBack 21 = .ok (.dup, 1) := by decide +kernel
theorem dX7_goesBack_22 : decode cX7_goesBack 22 = .ok (.getfield 120, 3) := by decide +kernel
theorem dX7_goesBack_25 : decode cX7_goesBack 25 = .ok (.iconst 1, 1) := by decide +kernel
theorem dX7_goesBack_26 : decode cX7_goesBack 26 = .ok (.iadd, 1) := by decide +kernel
theorem dX7_goesBack_27 : decode cX7_goesBack 27 = .ok (.putfield 120, 3) := by decide +kernel
theorem dX7_goesBack_30 : decode cX7_goesBack 30 = .ok (.aload_n 0, 1) := by decide +kernel
theorem dX7_goesBack_31 : decode cX7_goesBack 31 = .ok (.iload_n 1, 1) := by decide +kernel
theorem dX7_goesBack_32 : decode cX7_goesBack 32 = .ok (.bipush 62, 2) := by decide +kernel
theorem dX7_goesBack_34 : decode cX7_goesBack 34 = .ok (.iload 4, 2) := by decide +kernel
theorem dX7_goesBack_36 : decode cX7_goesBack 36 = .ok (.iadd, 1) := by decide +kernel
theorem dX7_goesBack_37 : decode cX7_goesBack 37 = .ok (.iconst 1, 1) := by decide +kernel
theorem dX7_goesBack_38 : decode cX7_goesBack 38 = .ok (.isub, 1) := by decide +kernel
theorem dX7_goesBack_39 : decode cX7_goesBack 39 = .ok (.invokevirtual 46, 3) := by decide +kernel
theorem dX7_goesBack_42 : decode cX7_goesBack 42 = .ok (.iload_n 3, 1) := by decide +kernel
theorem dX7_goesBack_43 : decode cX7_goesBack 43 = .ok (.if_icmp .lt 7, 3) := by decide +kernel
theorem dX7_goesBack_46 : decode cX7_goesBack 46 = .ok (.iconst 1, 1) := by decide +kernel
theorem dX7_goesBack_47 : decode cX7_goesBack 47 = .ok (.goto 4, 3) := by decide +kernel
theorem dX7_goesBack_50 : decode cX7_goesBack 50 = .ok (.iconst 0, 1) := by decide +kernel
theorem dX7_goesBack_51 : decode cX7_goesBack 51 = .ok (.istore 5, 2) := by decide +kernel
theorem dX7_goesBack_53 : decode cX7_goesBack 53 = .ok (.iload 4, 2) := by decide +kernel
theorem dX7_goesBack_55 : decode cX7_goesBack 55 = .ok (.iload 5, 2) := by decide +kernel
theorem dX7_goesBack_57 : decode cX7_goesBack 57 = .ok (.ifCond .eq 7, 3) := by decide +kernel
theorem dX7_goesBack_60 : decode cX7_goesBack 60 = .ok (.iconst 1, 1) := by decide +kernel
theorem dX7_goesBack_61 : decode cX7_goesBack 61 = .ok (.goto 4, 3) := by decide +kernel
theorem dX7_goesBack_64 : decode cX7_goesBack 64 = .ok (.iconst 0, 1) := by decide +kernel
theorem dX7_goesBack_65 : decode cX7_goesBack 65 = .ok (.isub, 1) := by decide +kernel
theorem dX7_goesBack_66 : decode cX7_goesBack 66 = .ok (.istore 4, 2) := by decide +kernel
theorem dX7_goesBack_68 : decode cX7_goesBack 68 = .ok (.iload 5, 2) := by decide +kernel
theorem dX7_goesBack_70 : decode cX7_goesBack 70 = .ok (.ifCond .eq 12, 3) := by decide +kernel
theorem dX7_goesBack_73 : decode cX7_goesBack 73 = .ok (.iload 4, 2) := by decide +kernel
theorem dX7_goesBack_75 : decode cX7_goesBack 75 = .ok (.ifCond .le 7, 3) := by decide +kernel
theorem dX7_goesBack_78 : decode cX7_goesBack 78 = .ok (.iconst 1, 1) := by decide +kernel
theorem dX7_goesBack_79 : decode cX7_goesBack 79 = .ok (.goto 4, 3) := by decide +kernel
theorem dX7_goesBack_82 : decode cX7_goesBack 82 = .ok (.iconst 0, 1) := by decide +kernel
theorem dX7_goesBack_83 : decode cX7_goesBack 83 = .ok (.istore 5, 2) := by decide +kernel
theorem dX7_goesBack_85 : decode cX7_goesBack 85 = .ok (.goto (-70), 3) := by decide +kernel
theorem dX7_goesBack_88 : decode cX7_goesBack 88 = .ok (.iload 4, 2) := by decide +kernel
theorem dX7_goesBack_90 : decode cX7_goesBack 90 = .ok (.ireturn, 1) := by decide +kernel
theorem dX7_search_0 : decode cX7_search 0 = .ok (.aload_n 0, 1) := by decide +kernel
theorem dX7_search_1 : decode cX7_search 1 = .ok (.iload_n 1, 1) := by decide +kernel
theorem dX7_search_2 : decode cX7_search 2 = .ok (.invokevirtual 80, 3) := by decide +kernel
theorem dX7_search_5 : decode cX7_search 5 = .ok (.ifCond .ne 9, 3) := by decide +kernel
theorem dX7_search_8 : decode cX7_search 8 = .ok (.aload_n 0, 1) := by decide +kernel
theorem dX7_search_9 : decode cX7_search 9 = .ok (.iconst 1, 1) := by decide +kernel
theorem dX7_search_10 : decode cX7_search 10 = .ok (.invokevirtual 84, 3) := by decide +kernel
theorem dX7_search_13 : decode cX7_search 13 = .ok (.ireturn, 1) := by decide +kernel
theorem dX7_search_14 : decode cX7_search 14 = .ok (.iload_n 2, 1) := by decide +kernel
theorem dX7_search_15 : decode cX7_search 15 = .ok (.invokestatic 133, 3) := by decide +kernel
theorem dX7_search_18 : decode cX7_search 18 = .ok (.ifCond .ne 9, 3) := by decide +kernel
theorem dX7_search_21 : decode cX7_search 21 = .ok (.aload_n 0, 1) := by decide +kernel
theorem dX7_search_22 : decode cX7_search 22 = .ok (.iconst 2, 1) := by decide +kernel
theorem dX7_search_23 : decode cX7_search 23 = .ok (.invokevirtual 84, 3) := by decide +kernel
theorem dX7_search_26 : decode cX7_search 26 = .ok (.ireturn, 1) := by decide +kernel
theorem dX7_search_27 : decode cX7_search 27 = .ok (.aload_n 0, 1) := by decide +kernel
theorem dX7_search_28 : decode cX7_search 28 = .ok (.invokevirtual 87, 3) := by decide +kernel
theorem dX7_search_31 : decode cX7_search 31 = .ok (.aload_n 0, 1) := by decide +kernel
theorem dX7_search_32 : decode cX7_search 32 = .ok (.iload_n 1, 1) := by decide +kernel
theorem dX7_search_33 : decode cX7_search 33 = .ok (.invokevirtual 136, 3) := by decide +kernel
theorem dX7_search_36 : decode cX7_search 36 = .ok (.aload_n 0, 1) := by decide +kernel
theorem dX7_search_37 : decode cX7_search 37 = .ok (.iload_n 2, 1) := by decide +kernel
theorem dX7_search_38 : decode cX7_search 38 = .ok (.invokevirtual 139, 3) := by decide +kernel
theorem dX7_search_41 : decode cX7_search 41 = .ok (.aload_n 0, 1) := by decide +kernel
theorem dX7_search_42 : decode cX7_search 42 = .ok (.getfield 7, 3) := by decide +kernel
theorem dX7_search_45 : decode cX7_search 45 = .ok (.iconst 3, 1) := by decide +kernel
theorem dX7_search_46 : decode cX7_search 46 = .ok (.dup2, 1) := by decide +kernel
theorem dX7_search_47 : decode cX7_search 47 = .ok (.iaload, 1) := by decide +kernel
theorem dX7_search_48 : decode cX7_search 48 = .ok (.iconst 1, 1) := by decide +kernel
theorem dX7_search_49 : decode cX7_search 49 = .ok (.iadd, 1) := by decide +kernel
theorem dX7_search_50 : decode cX7_search 50 = .ok (.iastore, 1) := by decide +kernel
theorem dX7_search_51 : decode cX7_search 51 = .ok (.aload_n 0, 1) := by decide +kernel
theorem dX7_search_52 : decode cX7_search 52 = .ok (.getfield 7, 3) := by decide +kernel
theorem dX7_search_55 : decode cX7_search 55 = .ok (.iconst 4, 1) := by decide +kernel
theorem dX7_search_56 : decode cX7_search 56 = .ok (.dup2, 1) := by decide +kernel
theorem dX7_search_57 : decode cX7_search 57 = .ok (.iaload, 1) := by decide +kernel
theorem dX7_search_58 : decode cX7_search 58 = .ok (.aload_n 0, 1) := by decide +kernel
theorem dX7_search_59 : decode cX7_search 59 = .ok (.getfield 120, 3) := by decide +kernel
theorem dX7_search_62 : decode cX7_search 62 = .ok (.iadd, 1) := by decide +kernel
theorem dX7_search_63 : decode cX7_search 63 = .ok (.iastore, 1) := by decide +kernel
theorem dX7_search_64 : decode cX7_search 64 = .ok (.aload_n 0, 1) := by decide +kernel
theorem dX7_search_65 : decode cX7_search 65 = .ok (.aload_n 0, 1) := by decide +kernel
theorem dX7_search_66 : decode cX7_search 66 = .ok (.getfield 28, 3) := by decide +kernel
theorem dX7_search_69 : decode cX7_search 69 = .ok (.aload_n 0, 1) := by decide +kernel
theorem dX7_search_70 : decode cX7_search 70 = .ok (.getfield 117, 3) := by decide +kernel
theorem dX7_search_73 : decode cX7_search 73 = .ok (.iconst 1, 1) := by decide +kernel
theorem dX7_search_74 : decode cX7_search 74 = .ok (.isub, 1) := by decide +kernel
theorem dX7_search_75 : decode cX7_search 75 = .ok (.iaload, 1) := by decide +kernel
theorem dX7_search_76 : decode cX7_search 76 = .ok (.invokevirtual 90, 3) := by decide +kernel
theorem dX7_search_79 : decode cX7_search 79 = .ok (.ireturn, 1) := by decide +kernel
theorem dX7_asks_0 : decode cX7_asks 0 = .ok (.aload_n 0, 1) := by decide +kernel
theorem dX7_asks_1 : decode cX7_asks 1 = .ok (.iload_n 1, 1) := by decide +kernel
theorem dX7_asks_2 : decode cX7_asks 2 = .ok (.invokevirtual 80, 3) := by decide +kernel
theorem dX7_asks_5 : decode cX7_asks 5 = .ok (.ifCond .ne 5, 3) := by decide +kernel
theorem dX7_asks_8 : decode cX7_asks 8 = .ok (.iconst 1, 1) := by decide +kernel
theorem dX7_asks_9 : decode cX7_asks 9 = .ok (.ireturn, 1) := by decide +kernel
theorem dX7_asks_10 : decode cX7_asks 10 = .ok (.iload_n 2, 1) := by decide +kernel
theorem dX7_asks_11 : decode cX7_asks 11 = .ok (.invokestatic 133, 3) := by decide +kernel
theorem dX7_asks_14 : decode cX7_asks 14 = .ok (.ifCond .ne 5, 3) := by decide +kernel
theorem dX7_asks_17 : decode cX7_asks 17 = .ok (.iconst 2, 1) := by decide +kernel
theorem dX7_asks_18 : decode cX7_asks 18 = .ok (.ireturn, 1) := by decide +kernel
theorem dX7_asks_19 : decode cX7_asks 19 = .ok (.aload_n 0, 1) := by decide +kernel
theorem dX7_asks_20 : decode cX7_asks 20 = .ok (.iload_n 1, 1) := by decide +kernel
theorem dX7_asks_21 : decode cX7_asks 21 = .ok (.invokevirtual 136, 3) := by decide +kernel
theorem dX7_asks_24 : decode cX7_asks 24 = .ok (.aload_n 0, 1) := by decide +kernel
theorem dX7_asks_25 : decode cX7_asks 25 = .ok (.iload_n 2, 1) := by decide +kernel
theorem dX7_asks_26 : decode cX7_asks 26 = .ok (.invokevirtual 139, 3) := by decide +kernel
theorem dX7_asks_29 : decode cX7_asks 29 = .ok (.iconst 0, 1) := by decide +kernel
theorem dX7_asks_30 : decode cX7_asks 30 = .ok (.ireturn, 1) := by decide +kernel
theorem dX7_probes_0 : decode cX7_probes 0 = .ok (.aload_n 0, 1) := by decide +kernel
theorem dX7_probes_1 : decode cX7_probes 1 = .ok (.iload_n 1, 1) := by decide +kernel
theorem dX7_probes_2 : decode cX7_probes 2 = .ok (.iload_n 2, 1) := by decide +kernel
theorem dX7_probes_3 : decode cX7_probes 3 = .ok (.invokevirtual 142, 3) := by decide +kernel
theorem dX7_probes_6 : decode cX7_probes 6 = .ok (.istore_n 3, 1) := by decide +kernel
theorem dX7_probes_7 : decode cX7_probes 7 = .ok (.iload_n 3, 1) := by decide +kernel
theorem dX7_probes_8 : decode cX7_probes 8 = .ok (.ifCond .le 11, 3) := by decide +kernel
theorem dX7_probes_11 : decode cX7_probes 11 = .ok (.aload_n 0, 1) := by decide +kernel
theorem dX7_probes_12 : decode cX7_probes 12 = .ok (.iload_n 3, 1) := by decide +kernel
theorem dX7_probes_13 : decode cX7_probes 13 = .ok (.invokevirtual 84, 3) := by decide +kernel
theorem dX7_probes_16 : decode cX7_probes 16 = .ok (.goto 11, 3) := by decide +kernel
theorem dX7_probes_19 : decode cX7_probes 19 = .ok (.aload_n 0, 1) := by decide +kernel
theorem dX7_probes_20 : decode cX7_probes 20 = .ok (.aload_n 0, 1) := by decide +kernel
theorem dX7_probes_21 : decode cX7_probes 21 = .ok (.getfield 120, 3) := by decide +kernel
theorem dX7_probes_24 : decode cX7_probes 24 = .ok (.invokevirtual 38, 3) := by decide +kernel
theorem dX7_probes_27 : decode cX7_probes 27 = .ok (.ireturn, 1) := by decide +kernel
theorem dX7_plainProbes_0 : decode cX7_plainProbes 0 = .ok (.aload_n 0, 1) := by decide +kernel
theorem dX7_plainProbes_1 : decode cX7_plainProbes 1 = .ok (.iload_n 1, 1) := by decide +kernel
theorem dX7_plainProbes_2 : decode cX7_plainProbes 2 = .ok (.iload_n 2, 1) := by decide +kernel
theorem dX7_plainProbes_3 : decode cX7_plainProbes 3 = .ok (.invokevirtual 142, 3) := by decide +kernel
theorem dX7_plainProbes_6 : decode cX7_plainProbes 6 = .ok (.istore_n 3, 1) := by decide +kernel
theorem dX7_plainProbes_7 : decode cX7_plainProbes 7 = .ok (.iload_n 3, 1) := by decide +kernel
theorem dX7_plainProbes_8 : decode cX7_plainProbes 8 = .ok (.ifCond .le 9, 3) := by decide +kernel
theorem dX7_plainProbes_11 : decode cX7_plainProbes 11 = .ok (.aload_n 0, 1) := by decide +kernel
theorem dX7_plainProbes_12 : decode cX7_plainProbes 12 = .ok (.iload_n 3, 1) := by decide +kernel
theorem dX7_plainProbes_13 : decode cX7_plainProbes 13 = .ok (.invokevirtual 84, 3) := by decide +kernel
theorem dX7_plainProbes_16 : decode cX7_plainProbes 16 = .ok (.ireturn, 1) := by decide +kernel
theorem dX7_plainProbes_17 : decode cX7_plainProbes 17 = .ok (.aload_n 0, 1) := by decide +kernel
theorem dX7_plainProbes_18 : decode cX7_plainProbes 18 = .ok (.iconst 0, 1) := by decide +kernel
theorem dX7_plainProbes_19 : decode cX7_plainProbes 19 = .ok (.putfield 120, 3) := by decide +kernel
theorem dX7_plainProbes_22 : decode cX7_plainProbes 22 = .ok (.iconst 0, 1) := by decide +kernel
theorem dX7_plainProbes_23 : decode cX7_plainProbes 23 = .ok (.istore 4, 2) := by decide +kernel
theorem dX7_plainProbes_25 : decode cX7_plainProbes 25 = .ok (.iconst 0, 1) := by decide +kernel
theorem dX7_plainProbes_26 : decode cX7_plainProbes 26 = .ok (.istore 5, 2) := by decide +kernel
theorem dX7_plainProbes_28 : decode cX7_plainProbes 28 = .ok (.iload 5, 2) := by decide +kernel
theorem dX7_plainProbes_30 : decode cX7_plainProbes 30 = .ok (.aload_n 0, 1) := by decide +kernel
theorem dX7_plainProbes_31 : decode cX7_plainProbes 31 = .ok (.getfield 117, 3) := by decide +kernel
theorem dX7_plainProbes_34 : decode cX7_plainProbes 34 = .ok (.if_icmp .ge 64, 3) := by decide +kernel
theorem dX7_plainProbes_37 : decode cX7_plainProbes 37 = .ok (.aload_n 0, 1) := by decide +kernel
theorem dX7_plainProbes_38 : decode cX7_plainProbes 38 = .ok (.aload_n 0, 1) := by decide +kernel
theorem dX7_plainProbes_39 : decode cX7_plainProbes 39 = .ok (.getfield 22, 3) := by decide +kernel
theorem dX7_plainProbes_42 : decode cX7_plainProbes 42 = .ok (.iload 5, 2) := by decide +kernel
theorem dX7_plainProbes_44 : decode cX7_plainProbes 44 = .ok (.iaload, 1) := by decide +kernel
theorem dX7_plainProbes_45 : decode cX7_plainProbes 45 = .ok (.aload_n 0, 1) := by decide +kernel
theorem dX7_plainProbes_46 : decode cX7_plainProbes 46 = .ok (.aload_n 0, 1) := by decide +kernel
theorem dX7_plainProbes_47 : decode cX7_plainProbes 47 = .ok (.getfield 22, 3) := by decide +kernel
theorem dX7_plainProbes_50 : decode cX7_plainProbes 50 = .ok (.iload 5, 2) := by decide +kernel
theorem dX7_plainProbes_52 : decode cX7_plainProbes 52 = .ok (.iaload, 1) := by decide +kernel
theorem dX7_plainProbes_53 : decode cX7_plainProbes 53 = .ok (.iconst 4, 1) := by decide +kernel
theorem dX7_plainProbes_54 : decode cX7_plainProbes 54 = .ok (.aload_n 0, 1) := by decide +kernel
theorem dX7_plainProbes_55 : decode cX7_plainProbes 55 = .ok (.aload_n 0, 1) := by decide +kernel
theorem dX7_plainProbes_56 : decode cX7_plainProbes 56 = .ok (.getfield 22, 3) := by decide +kernel
theorem dX7_plainProbes_59 : decode cX7_plainProbes 59 = .ok (.iload 5, 2) := by decide +kernel
theorem dX7_plainProbes_61 : decode cX7_plainProbes 61 = .ok (.iaload, 1) := by decide +kernel
theorem dX7_plainProbes_62 : decode cX7_plainProbes 62 = .ok (.iconst 3, 1) := by decide +kernel
theorem dX7_plainProbes_63 : decode cX7_plainProbes 63 = .ok (.invokevirtual 46, 3) := by decide +kernel
theorem dX7_plainProbes_66 : decode cX7_plainProbes 66 = .ok (.iload_n 2, 1) := by decide +kernel
theorem dX7_plainProbes_67 : decode cX7_plainProbes 67 = .ok (.invokevirtual 123, 3) := by decide +kernel
theorem dX7_plainProbes_70 : decode cX7_plainProbes 70 = .ok (.iload_n 2, 1) := by decide +kernel
theorem dX7_plainProbes_71 : decode cX7_plainProbes 71 = .ok (.invokevirtual 130, 3) := by decide +kernel
theorem dX7_plainProbes_74 : decode cX7_plainProbes 74 = .ok (.istore 6, 2) := by decide +kernel
theorem dX7_plainProbes_76 : decode cX7_plainProbes 76 = .ok (.iload 4, 2) := by decide +kernel
theorem dX7_plainProbes_78 : decode cX7_plainProbes 78 = .ok (.iload 6, 2) := by decide +kernel
theorem dX7_plainProbes_80 : decode cX7_plainProbes 80 = .ok (.iconst (-1), 1) := by decide +kernel
theorem dX7_plainProbes_81 : decode cX7_plainProbes 81 = .ok (.if_icmp .ne 7, 3) := by decide +kernel
theorem dX7_plainProbes_84 : decode cX7_plainProbes 84 = .ok (.iconst 0, 1) := by decide +kernel
theorem dX7_plainProbes_85 : decode cX7_plainProbes 85 = .ok (.goto 4, 3) := by decide +kernel
theorem dX7_plainProbes_88 : decode cX7_plainProbes 88 = .ok (.iconst 1, 1) := by decide +kernel
theorem dX7_plainProbes_89 : decode cX7_plainProbes 89 = .ok (.iadd, 1) := by decide +kernel
theorem dX7_plainProbes_90 : decode cX7_plainProbes 90 = .ok (.istore 4, 2) := by decide +kernel
theorem dX7_plainProbes_92 : decode cX7_plainProbes 92 = .ok (.iinc 5 1, 3) := by decide +kernel
theorem dX7_plainProbes_95 : decode cX7_plainProbes 95 = .ok (.goto (-67), 3) := by decide +kernel
theorem dX7_plainProbes_98 : decode cX7_plainProbes 98 = .ok (.aload_n 0, 1) := by decide +kernel
theorem dX7_plainProbes_99 : decode cX7_plainProbes 99 = .ok (.iload 4, 2) := by decide +kernel
theorem dX7_plainProbes_101 : decode cX7_plainProbes 101 = .ok (.ifCond .ge 8, 3) := by decide +kernel
theorem dX7_plainProbes_104 : decode cX7_plainProbes 104 = .ok (.iload 4, 2) := by decide +kernel
theorem dX7_plainProbes_106 : decode cX7_plainProbes 106 = .ok (.goto 7, 3) := by decide +kernel
theorem dX7_plainProbes_109 : decode cX7_plainProbes 109 = .ok (.aload_n 0, 1) := by decide +kernel
theorem dX7_plainProbes_110 : decode cX7_plainProbes 110 = .ok (.getfield 120, 3) := by decide +kernel
theorem dX7_plainProbes_113 : decode cX7_plainProbes 113 = .ok (.invokevirtual 38, 3) := by decide +kernel
theorem dX7_plainProbes_116 : decode cX7_plainProbes 116 = .ok (.ireturn, 1) := by decide +kernel
theorem dX7_place_0 : decode cX7_place 0 = .ok (.aload_n 0, 1) := by decide +kernel
theorem dX7_place_1 : decode cX7_place 1 = .ok (.iload_n 1, 1) := by decide +kernel
theorem dX7_place_2 : decode cX7_place 2 = .ok (.iload_n 2, 1) := by decide +kernel
theorem dX7_place_3 : decode cX7_place 3 = .ok (.invokevirtual 142, 3) := by decide +kernel
theorem dX7_place_6 : decode cX7_place 6 = .ok (.istore_n 3, 1) := by decide +kernel
theorem dX7_place_7 : decode cX7_place 7 = .ok (.iload_n 3, 1) := by decide +kernel
theorem dX7_place_8 : decode cX7_place 8 = .ok (.ifCond .le 11, 3) := by decide +kernel
theorem dX7_place_11 : decode cX7_place 11 = .ok (.aload_n 0, 1) := by decide +kernel
theorem dX7_place_12 : decode cX7_place 12 = .ok (.iload_n 3, 1) := by decide +kernel
theorem dX7_place_13 : decode cX7_place 13 = .ok (.invokevirtual 84, 3) := by decide +kernel
theorem dX7_place_16 : decode cX7_place 16 = .ok (.goto 18, 3) := by decide +kernel
theorem dX7_place_19 : decode cX7_place 19 = .ok (.aload_n 0, 1) := by decide +kernel
theorem dX7_place_20 : decode cX7_place 20 = .ok (.aload_n 0, 1) := by decide +kernel
theorem dX7_place_21 : decode cX7_place 21 = .ok (.getfield 25, 3) := by decide +kernel
theorem dX7_place_24 : decode cX7_place 24 = .ok (.aload_n 0, 1) := by decide +kernel
theorem dX7_place_25 : decode cX7_place 25 = .ok (.getfield 117, 3) := by decide +kernel
theorem dX7_place_28 : decode cX7_place 28 = .ok (.iconst 1, 1) := by decide +kernel
theorem dX7_place_29 : decode cX7_place 29 = .ok (.isub, 1) := by decide +kernel
theorem dX7_place_30 : decode cX7_place 30 = .ok (.iaload, 1) := by decide +kernel
theorem dX7_place_31 : decode cX7_place 31 = .ok (.invokevirtual 38, 3) := by decide +kernel
theorem dX7_place_34 : decode cX7_place 34 = .ok (.ireturn, 1) := by decide +kernel
theorem dX7_leastStep_0 : decode cX7_leastStep 0 = .ok (.iconst (-1), 1) := by decide +kernel
theorem dX7_leastStep_1 : decode cX7_leastStep 1 = .ok (.istore_n 1, 1) := by decide +kernel
theorem dX7_leastStep_2 : decode cX7_leastStep 2 = .ok (.iconst 0, 1) := by decide +kernel
theorem dX7_leastStep_3 : decode cX7_leastStep 3 = .ok (.istore_n 2, 1) := by decide +kernel
theorem dX7_leastStep_4 : decode cX7_leastStep 4 = .ok (.iload_n 2, 1) := by decide +kernel
theorem dX7_leastStep_5 : decode cX7_leastStep 5 = .ok (.aload_n 0, 1) := by decide +kernel
theorem dX7_leastStep_6 : decode cX7_leastStep 6 = .ok (.getfield 117, 3) := by decide +kernel
theorem dX7_leastStep_9 : decode cX7_leastStep 9 = .ok (.if_icmp .ge 45, 3) := by decide +kernel
theorem dX7_leastStep_12 : decode cX7_leastStep 12 = .ok (.aload_n 0, 1) := by decide +kernel
theorem dX7_leastStep_13 : decode cX7_leastStep 13 = .ok (.getfield 28, 3) := by decide +kernel
theorem dX7_leastStep_16 : decode cX7_leastStep 16 = .ok (.iload_n 2, 1) := by decide +kernel
theorem dX7_leastStep_17 : decode cX7_leastStep 17 = .ok (.iaload, 1) := by decide +kernel
theorem dX7_leastStep_18 : decode cX7_leastStep 18 = .ok (.iconst (-1), 1) := by decide +kernel
theorem dX7_leastStep_19 : decode cX7_leastStep 19 = .ok (.if_icmp .eq 27, 3) := by decide +kernel
theorem dX7_leastStep_22 : decode cX7_leastStep 22 = .ok (.iload_n 1, 1) := by decide +kernel
theorem dX7_leastStep_23 : decode cX7_leastStep 23 = .ok (.iconst (-1), 1) := by decide +kernel
theorem dX7_leastStep_24 : decode cX7_leastStep 24 = .ok (.if_icmp .eq 18, 3) := by decide +kernel
theorem dX7_leastStep_27 : decode cX7_leastStep 27 = .ok (.aload_n 0, 1) := by decide +kernel
theorem dX7_leastStep_28 : decode cX7_leastStep 28 = .ok (.getfield 28, 3) := by decide +kernel
theorem dX7_leastStep_31 : decode cX7_leastStep 31 = .ok (.iload_n 2, 1) := by decide +kernel
theorem dX7_leastStep_32 : decode cX7_leastStep 32 = .ok (.iaload, 1) := by decide +kernel
theorem dX7_leastStep_33 : decode cX7_leastStep 33 = .ok (.aload_n 0, 1) := by decide +kernel
theorem dX7_leastStep_34 : decode cX7_leastStep 34 = .ok (.getfield 28, 3) := by decide +kernel
theorem dX7_leastStep_37 : decode cX7_leastStep 37 = .ok (.iload_n 1, 1) := by decide +kernel
theorem dX7_leastStep_38 : decode cX7_leastStep 38 = .ok (.iaload, 1) := by decide +kernel
theorem dX7_leastStep_39 : decode cX7_leastStep 39 = .ok (.if_icmp .ge 7, 3) := by decide +kernel
theorem dX7_leastStep_42 : decode cX7_leastStep 42 = .ok (.iload_n 2, 1) := by decide +kernel
theorem dX7_leastStep_43 : decode cX7_leastStep 43 = .ok (.goto 4, 3) := by decide +kernel
theorem dX7_leastStep_46 : decode cX7_leastStep 46 = .ok (.iload_n 1, 1) := by decide +kernel
theorem dX7_leastStep_47 : decode cX7_leastStep 47 = .ok (.istore_n 1, 1) := by decide +kernel
theorem dX7_leastStep_48 : decode cX7_leastStep 48 = .ok (.iinc 2 1, 3) := by decide +kernel
theorem dX7_leastStep_51 : decode cX7_leastStep 51 = .ok (.goto (-47), 3) := by decide +kernel
theorem dX7_leastStep_54 : decode cX7_leastStep 54 = .ok (.iload_n 1, 1) := by decide +kernel
theorem dX7_leastStep_55 : decode cX7_leastStep 55 = .ok (.ireturn, 1) := by decide +kernel
theorem dX7_leastOnPath_0 : decode cX7_leastOnPath 0 = .ok (.aload_n 0, 1) := by decide +kernel
theorem dX7_leastOnPath_1 : decode cX7_leastOnPath 1 = .ok (.iload_n 1, 1) := by decide +kernel
theorem dX7_leastOnPath_2 : decode cX7_leastOnPath 2 = .ok (.iload_n 2, 1) := by decide +kernel
theorem dX7_leastOnPath_3 : decode cX7_leastOnPath 3 = .ok (.invokevirtual 142, 3) := by decide +kernel
theorem dX7_leastOnPath_6 : decode cX7_leastOnPath 6 = .ok (.istore_n 3, 1) := by decide +kernel
theorem dX7_leastOnPath_7 : decode cX7_leastOnPath 7 = .ok (.iload_n 3, 1) := by decide +kernel
theorem dX7_leastOnPath_8 : decode cX7_leastOnPath 8 = .ok (.ifCond .le 9, 3) := by decide +kernel
theorem dX7_leastOnPath_11 : decode cX7_leastOnPath 11 = .ok (.aload_n 0, 1) := by decide +kernel
theorem dX7_leastOnPath_12 : decode cX7_leastOnPath 12 = .ok (.iload_n 3, 1) := by decide +kernel
theorem dX7_leastOnPath_13 : decode cX7_leastOnPath 13 = .ok (.invokevirtual 84, 3) := by decide +kernel
theorem dX7_leastOnPath_16 : decode cX7_leastOnPath 16 = .ok (.ireturn, 1) := by decide +kernel
theorem dX7_leastOnPath_17 : decode cX7_leastOnPath 17 = .ok (.aload_n 0, 1) := by decide +kernel
theorem dX7_leastOnPath_18 : decode cX7_leastOnPath 18 = .ok (.invokevirtual 145, 3) := by decide +kernel
theorem dX7_leastOnPath_21 : decode cX7_leastOnPath 21 = .ok (.istore 4, 2) := by decide +kernel
theorem dX7_leastOnPath_23 : decode cX7_leastOnPath 23 = .ok (.aload_n 0, 1) := by decide +kernel
theorem dX7_leastOnPath_24 : decode cX7_leastOnPath 24 = .ok (.iload 4, 2) := by decide +kernel
theorem dX7_leastOnPath_26 : decode cX7_leastOnPath 26 = .ok (.iconst (-1), 1) := by decide +kernel
theorem dX7_leastOnPath_27 : decode cX7_leastOnPath 27 = .ok (.if_icmp .ne 7, 3) := by decide +kernel
theorem dX7_leastOnPath_30 : decode cX7_leastOnPath 30 = .ok (.iconst (-1), 1) := by decide +kernel
theorem dX7_leastOnPath_31 : decode cX7_leastOnPath 31 = .ok (.goto 10, 3) := by decide +kernel
theorem dX7_leastOnPath_34 : decode cX7_leastOnPath 34 = .ok (.aload_n 0, 1) := by decide +kernel
theorem dX7_leastOnPath_35 : decode cX7_leastOnPath 35 = .ok (.getfield 28, 3) := by decide +kernel
theorem dX7_leastOnPath_38 : decode cX7_leastOnPath 38 = .ok (.iload 4, 2) := by decide +kernel
theorem dX7_leastOnPath_40 : decode cX7_leastOnPath 40 = .ok (.iaload, 1) := by decide +kernel
theorem dX7_leastOnPath_41 : decode cX7_leastOnPath 41 = .ok (.invokevirtual 38, 3) := by decide +kernel
theorem dX7_leastOnPath_44 : decode cX7_leastOnPath 44 = .ok (.ireturn, 1) := by decide +kernel
theorem dX7_nearestOnPath_0 : decode cX7_nearestOnPath 0 = .ok (.aload_n 0, 1) := by decide +kernel
theorem dX7_nearestOnPath_1 : decode cX7_nearestOnPath 1 = .ok (.iload_n 1, 1) := by decide +kernel
theorem dX7_nearestOnPath_2 : decode cX7_nearestOnPath 2 = .ok (.iload_n 2, 1) := by decide +kernel
theorem dX7_nearestOnPath_3 : decode cX7_nearestOnPath 3 = .ok (.invokevirtual 142, 3) := by decide +kernel
theorem dX7_nearestOnPath_6 : decode cX7_nearestOnPath 6 = .ok (.istore_n 3, 1) := by decide +kernel
theorem dX7_nearestOnPath_7 : decode cX7_nearestOnPath 7 = .ok (.iload_n 3, 1) := by decide +kernel
end
section
theorem dX7_nearestOnPath_8 : decode cX7_nearestOnPath 8 = .ok (.ifCond .le 9, 3) := by decide +kernel
theorem dX7_nearestOnPath_11 : decode cX7_nearestOnPath 11 = .ok (.aload_n 0, 1) := by decide +kernel
theorem dX7_nearestOnPath_12 : decode cX7_nearestOnPath 12 = .ok (.iload_n 3, 1) := by decide +kernel
theorem dX7_nearestOnPath_13 : decode cX7_nearestOnPath 13 = .ok (.invokevirtual 84, 3) := by decide +kernel
theorem dX7_nearestOnPath_16 : decode cX7_nearestOnPath 16 = .ok (.ireturn, 1) := by decide +kernel
theorem dX7_nearestOnPath_17 : decode cX7_nearestOnPath 17 = .ok (.aload_n 0, 1) := by decide +kernel
theorem dX7_nearestOnPath_18 : decode cX7_nearestOnPath 18 = .ok (.invokevirtual 145, 3) := by decide +kernel
theorem dX7_nearestOnPath_21 : decode cX7_nearestOnPath 21 = .ok (.istore 4, 2) := by decide +kernel
theorem dX7_nearestOnPath_23 : decode cX7_nearestOnPath 23 = .ok (.aload_n 0, 1) := by decide +kernel
theorem dX7_nearestOnPath_24 : decode cX7_nearestOnPath 24 = .ok (.iload 4, 2) := by decide +kernel
theorem dX7_nearestOnPath_26 : decode cX7_nearestOnPath 26 = .ok (.iconst (-1), 1) := by decide +kernel
theorem dX7_nearestOnPath_27 : decode cX7_nearestOnPath 27 = .ok (.if_icmp .ne 7, 3) := by decide +kernel
theorem dX7_nearestOnPath_30 : decode cX7_nearestOnPath 30 = .ok (.iconst (-1), 1) := by decide +kernel
theorem dX7_nearestOnPath_31 : decode cX7_nearestOnPath 31 = .ok (.goto 10, 3) := by decide +kernel
theorem dX7_nearestOnPath_34 : decode cX7_nearestOnPath 34 = .ok (.aload_n 0, 1) := by decide +kernel
theorem dX7_nearestOnPath_35 : decode cX7_nearestOnPath 35 = .ok (.getfield 22, 3) := by decide +kernel
theorem dX7_nearestOnPath_38 : decode cX7_nearestOnPath 38 = .ok (.iload 4, 2) := by decide +kernel
theorem dX7_nearestOnPath_40 : decode cX7_nearestOnPath 40 = .ok (.iaload, 1) := by decide +kernel
theorem dX7_nearestOnPath_41 : decode cX7_nearestOnPath 41 = .ok (.invokevirtual 38, 3) := by decide +kernel
theorem dX7_nearestOnPath_44 : decode cX7_nearestOnPath 44 = .ok (.ireturn, 1) := by decide +kernel
theorem dX7_worstOf_0 : decode cX7_worstOf 0 = .ok (.aload_n 0, 1) := by decide +kernel
theorem dX7_worstOf_1 : decode cX7_worstOf 1 = .ok (.iload_n 1, 1) := by decide +kernel
theorem dX7_worstOf_2 : decode cX7_worstOf 2 = .ok (.invokevirtual 136, 3) := by decide +kernel
theorem dX7_worstOf_5 : decode cX7_worstOf 5 = .ok (.aload_n 0, 1) := by decide +kernel
theorem dX7_worstOf_6 : decode cX7_worstOf 6 = .ok (.iconst 0, 1) := by decide +kernel
theorem dX7_worstOf_7 : decode cX7_worstOf 7 = .ok (.invokevirtual 139, 3) := by decide +kernel
theorem dX7_worstOf_10 : decode cX7_worstOf 10 = .ok (.aload_n 0, 1) := by decide +kernel
theorem dX7_worstOf_11 : decode cX7_worstOf 11 = .ok (.getfield 120, 3) := by decide +kernel
theorem dX7_worstOf_14 : decode cX7_worstOf 14 = .ok (.istore_n 2, 1) := by decide +kernel
theorem dX7_worstOf_15 : decode cX7_worstOf 15 = .ok (.iconst 0, 1) := by decide +kernel
theorem dX7_worstOf_16 : decode cX7_worstOf 16 = .ok (.istore_n 3, 1) := by decide +kernel
theorem dX7_worstOf_17 : decode cX7_worstOf 17 = .ok (.iload_n 3, 1) := by decide +kernel
theorem dX7_worstOf_18 : decode cX7_worstOf 18 = .ok (.aload_n 0, 1) := by decide +kernel
theorem dX7_worstOf_19 : decode cX7_worstOf 19 = .ok (.getfield 117, 3) := by decide +kernel
theorem dX7_worstOf_22 : decode cX7_worstOf 22 = .ok (.if_icmp .ge 73, 3) := by decide +kernel
theorem dX7_worstOf_25 : decode cX7_worstOf 25 = .ok (.iconst 0, 1) := by decide +kernel
theorem dX7_worstOf_26 : decode cX7_worstOf 26 = .ok (.istore 4, 2) := by decide +kernel
theorem dX7_worstOf_28 : decode cX7_worstOf 28 = .ok (.iload 4, 2) := by decide +kernel
theorem dX7_worstOf_30 : decode cX7_worstOf 30 = .ok (.aload_n 0, 1) := by decide +kernel
theorem dX7_worstOf_31 : decode cX7_worstOf 31 = .ok (.aload_n 0, 1) := by decide +kernel
theorem dX7_worstOf_32 : decode cX7_worstOf 32 = .ok (.getfield 22, 3) := by decide +kernel
theorem dX7_worstOf_35 : decode cX7_worstOf 35 = .ok (.iload_n 3, 1) := by decide +kernel
theorem dX7_worstOf_36 : decode cX7_worstOf 36 = .ok (.iaload, 1) := by decide +kernel
theorem dX7_worstOf_37 : decode cX7_worstOf 37 = .ok (.bipush 61, 2) := by decide +kernel
theorem dX7_worstOf_39 : decode cX7_worstOf 39 = .ok (.invokevirtual 46, 3) := by decide +kernel
theorem dX7_worstOf_42 : decode cX7_worstOf 42 = .ok (.if_icmp .ge 47, 3) := by decide +kernel
theorem dX7_worstOf_45 : decode cX7_worstOf 45 = .ok (.aload_n 0, 1) := by decide +kernel
theorem dX7_worstOf_46 : decode cX7_worstOf 46 = .ok (.aload_n 0, 1) := by decide +kernel
theorem dX7_worstOf_47 : decode cX7_worstOf 47 = .ok (.aload_n 0, 1) := by decide +kernel
theorem dX7_worstOf_48 : decode cX7_worstOf 48 = .ok (.getfield 22, 3) := by decide +kernel
theorem dX7_worstOf_51 : decode cX7_worstOf 51 = .ok (.iload_n 3, 1) := by decide +kernel
theorem dX7_worstOf_52 : decode cX7_worstOf 52 = .ok (.iaload, 1) := by decide +kernel
theorem dX7_worstOf_53 : decode cX7_worstOf 53 = .ok (.bipush 62, 2) := by decide +kernel
theorem dX7_worstOf_55 : decode cX7_worstOf 55 = .ok (.iload 4, 2) := by decide +kernel
theorem dX7_worstOf_57 : decode cX7_worstOf 57 = .ok (.iadd, 1) := by decide +kernel
theorem dX7_worstOf_58 : decode cX7_worstOf 58 = .ok (.invokevirtual 46, 3) := by decide +kernel
theorem dX7_worstOf_61 : decode cX7_worstOf 61 = .ok (.iconst 1, 1) := by decide +kernel
theorem dX7_worstOf_62 : decode cX7_worstOf 62 = .ok (.iadd, 1) := by decide +kernel
theorem dX7_worstOf_63 : decode cX7_worstOf 63 = .ok (.invokevirtual 139, 3) := by decide +kernel
theorem dX7_worstOf_66 : decode cX7_worstOf 66 = .ok (.aload_n 0, 1) := by decide +kernel
theorem dX7_worstOf_67 : decode cX7_worstOf 67 = .ok (.getfield 120, 3) := by decide +kernel
theorem dX7_worstOf_70 : decode cX7_worstOf 70 = .ok (.iload_n 2, 1) := by decide +kernel
theorem dX7_worstOf_71 : decode cX7_worstOf 71 = .ok (.if_icmp .le 10, 3) := by decide +kernel
theorem dX7_worstOf_74 : decode cX7_worstOf 74 = .ok (.aload_n 0, 1) := by decide +kernel
theorem dX7_worstOf_75 : decode cX7_worstOf 75 = .ok (.getfield 120, 3) := by decide +kernel
theorem dX7_worstOf_78 : decode cX7_worstOf 78 = .ok (.goto 4, 3) := by decide +kernel
theorem dX7_worstOf_81 : decode cX7_worstOf 81 = .ok (.iload_n 2, 1) := by decide +kernel
theorem dX7_worstOf_82 : decode cX7_worstOf 82 = .ok (.istore_n 2, 1) := by decide +kernel
theorem dX7_worstOf_83 : decode cX7_worstOf 83 = .ok (.iinc 4 1, 3) := by decide +kernel
theorem dX7_worstOf_86 : decode cX7_worstOf 86 = .ok (.goto (-58), 3) := by decide +kernel
theorem dX7_worstOf_89 : decode cX7_worstOf 89 = .ok (.iinc 3 1, 3) := by decide +kernel
theorem dX7_worstOf_92 : decode cX7_worstOf 92 = .ok (.goto (-75), 3) := by decide +kernel
theorem dX7_worstOf_95 : decode cX7_worstOf 95 = .ok (.iload_n 2, 1) := by decide +kernel
theorem dX7_worstOf_96 : decode cX7_worstOf 96 = .ok (.ireturn, 1) := by decide +kernel
theorem dX7_worst_0 : decode cX7_worst 0 = .ok (.aload_n 0, 1) := by decide +kernel
theorem dX7_worst_1 : decode cX7_worst 1 = .ok (.iload_n 1, 1) := by decide +kernel
theorem dX7_worst_2 : decode cX7_worst 2 = .ok (.invokevirtual 80, 3) := by decide +kernel
theorem dX7_worst_5 : decode cX7_worst 5 = .ok (.ifCond .eq 15, 3) := by decide +kernel
theorem dX7_worst_8 : decode cX7_worst 8 = .ok (.aload_n 0, 1) := by decide +kernel
theorem dX7_worst_9 : decode cX7_worst 9 = .ok (.aload_n 0, 1) := by decide +kernel
theorem dX7_worst_10 : decode cX7_worst 10 = .ok (.iload_n 1, 1) := by decide +kernel
theorem dX7_worst_11 : decode cX7_worst 11 = .ok (.invokevirtual 148, 3) := by decide +kernel
theorem dX7_worst_14 : decode cX7_worst 14 = .ok (.invokevirtual 38, 3) := by decide +kernel
theorem dX7_worst_17 : decode cX7_worst 17 = .ok (.goto 8, 3) := by decide +kernel
theorem dX7_worst_20 : decode cX7_worst 20 = .ok (.aload_n 0, 1) := by decide +kernel
theorem dX7_worst_21 : decode cX7_worst 21 = .ok (.iconst 1, 1) := by decide +kernel
theorem dX7_worst_22 : decode cX7_worst 22 = .ok (.invokevirtual 84, 3) := by decide +kernel
theorem dX7_worst_25 : decode cX7_worst 25 = .ok (.ireturn, 1) := by decide +kernel
theorem dX7_nodes_0 : decode cX7_nodes 0 = .ok (.aload_n 0, 1) := by decide +kernel
theorem dX7_nodes_1 : decode cX7_nodes 1 = .ok (.aload_n 0, 1) := by decide +kernel
theorem dX7_nodes_2 : decode cX7_nodes 2 = .ok (.getfield 7, 3) := by decide +kernel
theorem dX7_nodes_5 : decode cX7_nodes 5 = .ok (.iconst 0, 1) := by decide +kernel
theorem dX7_nodes_6 : decode cX7_nodes 6 = .ok (.iaload, 1) := by decide +kernel
theorem dX7_nodes_7 : decode cX7_nodes 7 = .ok (.invokevirtual 38, 3) := by decide +kernel
theorem dX7_nodes_10 : decode cX7_nodes 10 = .ok (.ireturn, 1) := by decide +kernel
theorem dX7_depth_0 : decode cX7_depth 0 = .ok (.aload_n 0, 1) := by decide +kernel
theorem dX7_depth_1 : decode cX7_depth 1 = .ok (.iload_n 1, 1) := by decide +kernel
theorem dX7_depth_2 : decode cX7_depth 2 = .ok (.invokevirtual 136, 3) := by decide +kernel
theorem dX7_depth_5 : decode cX7_depth 5 = .ok (.aload_n 0, 1) := by decide +kernel
theorem dX7_depth_6 : decode cX7_depth 6 = .ok (.getfield 117, 3) := by decide +kernel
theorem dX7_depth_9 : decode cX7_depth 9 = .ok (.iconst 1, 1) := by decide +kernel
theorem dX7_depth_10 : decode cX7_depth 10 = .ok (.isub, 1) := by decide +kernel
theorem dX7_depth_11 : decode cX7_depth 11 = .ok (.ireturn, 1) := by decide +kernel
theorem dX7_value_0 : decode cX7_value 0 = .ok (.iload_n 2, 1) := by decide +kernel
theorem dX7_value_1 : decode cX7_value 1 = .ok (.tableswitch 87 0 7 #[47, 47, 47, 54, 60, 66, 73, 79], 47) := by decide +kernel
theorem dX7_value_48 : decode cX7_value 48 = .ok (.aload_n 0, 1) := by decide +kernel
theorem dX7_value_49 : decode cX7_value 49 = .ok (.iload_n 1, 1) := by decide +kernel
theorem dX7_value_50 : decode cX7_value 50 = .ok (.iload_n 2, 1) := by decide +kernel
theorem dX7_value_51 : decode cX7_value 51 = .ok (.invokevirtual 46, 3) := by decide +kernel
theorem dX7_value_54 : decode cX7_value 54 = .ok (.ireturn, 1) := by decide +kernel
theorem dX7_value_55 : decode cX7_value 55 = .ok (.aload_n 0, 1) := by decide +kernel
theorem dX7_value_56 : decode cX7_value 56 = .ok (.iload_n 1, 1) := by decide +kernel
theorem dX7_value_57 : decode cX7_value 57 = .ok (.invokevirtual 151, 3) := by decide +kernel
theorem dX7_value_60 : decode cX7_value 60 = .ok (.ireturn, 1) := by decide +kernel
theorem dX7_value_61 : decode cX7_value 61 = .ok (.aload_n 0, 1) := by decide +kernel
theorem dX7_value_62 : decode cX7_value 62 = .ok (.iload_n 1, 1) := by decide +kernel
theorem dX7_value_63 : decode cX7_value 63 = .ok (.invokevirtual 103, 3) := by decide +kernel
theorem dX7_value_66 : decode cX7_value 66 = .ok (.ireturn, 1) := by decide +kernel
theorem dX7_value_67 : decode cX7_value 67 = .ok (.aload_n 0, 1) := by decide +kernel
theorem dX7_value_68 : decode cX7_value 68 = .ok (.iload_n 1, 1) := by decide +kernel
theorem dX7_value_69 : decode cX7_value 69 = .ok (.iconst 3, 1) := by decide +kernel
theorem dX7_value_70 : decode cX7_value 70 = .ok (.invokevirtual 46, 3) := by decide +kernel
theorem dX7_value_73 : decode cX7_value 73 = .ok (.ireturn, 1) := by decide +kernel
theorem dX7_value_74 : decode cX7_value 74 = .ok (.aload_n 0, 1) := by decide +kernel
theorem dX7_value_75 : decode cX7_value 75 = .ok (.iload_n 1, 1) := by decide +kernel
theorem dX7_value_76 : decode cX7_value 76 = .ok (.invokevirtual 50, 3) := by decide +kernel
theorem dX7_value_79 : decode cX7_value 79 = .ok (.ireturn, 1) := by decide +kernel
theorem dX7_value_80 : decode cX7_value 80 = .ok (.aload_n 0, 1) := by decide +kernel
theorem dX7_value_81 : decode cX7_value 81 = .ok (.iload_n 1, 1) := by decide +kernel
theorem dX7_value_82 : decode cX7_value 82 = .ok (.bipush 52, 2) := by decide +kernel
theorem dX7_value_84 : decode cX7_value 84 = .ok (.invokevirtual 46, 3) := by decide +kernel
theorem dX7_value_87 : decode cX7_value 87 = .ok (.ireturn, 1) := by decide +kernel
theorem dX7_value_88 : decode cX7_value 88 = .ok (.aload_n 0, 1) := by decide +kernel
theorem dX7_value_89 : decode cX7_value 89 = .ok (.iload_n 1, 1) := by decide +kernel
theorem dX7_value_90 : decode cX7_value 90 = .ok (.bipush 61, 2) := by decide +kernel
theorem dX7_value_92 : decode cX7_value 92 = .ok (.invokevirtual 46, 3) := by decide +kernel
theorem dX7_value_95 : decode cX7_value 95 = .ok (.ireturn, 1) := by decide +kernel
theorem dX7_node_0 : decode cX7_node 0 = .ok (.aload_n 0, 1) := by decide +kernel
theorem dX7_node_1 : decode cX7_node 1 = .ok (.iload_n 1, 1) := by decide +kernel
theorem dX7_node_2 : decode cX7_node 2 = .ok (.invokevirtual 80, 3) := by decide +kernel
theorem dX7_node_5 : decode cX7_node 5 = .ok (.ifCond .ne 9, 3) := by decide +kernel
theorem dX7_node_8 : decode cX7_node 8 = .ok (.aload_n 0, 1) := by decide +kernel
theorem dX7_node_9 : decode cX7_node 9 = .ok (.iconst 1, 1) := by decide +kernel
theorem dX7_node_10 : decode cX7_node 10 = .ok (.invokevirtual 84, 3) := by decide +kernel
theorem dX7_node_13 : decode cX7_node 13 = .ok (.ireturn, 1) := by decide +kernel
theorem dX7_node_14 : decode cX7_node 14 = .ok (.iload_n 2, 1) := by decide +kernel
theorem dX7_node_15 : decode cX7_node 15 = .ok (.iconst 0, 1) := by decide +kernel
theorem dX7_node_16 : decode cX7_node 16 = .ok (.bipush 8, 2) := by decide +kernel
theorem dX7_node_18 : decode cX7_node 18 = .ok (.invokestatic 42, 3) := by decide +kernel
theorem dX7_node_21 : decode cX7_node 21 = .ok (.ifCond .eq 16, 3) := by decide +kernel
theorem dX7_node_24 : decode cX7_node 24 = .ok (.aload_n 0, 1) := by decide +kernel
theorem dX7_node_25 : decode cX7_node 25 = .ok (.aload_n 0, 1) := by decide +kernel
theorem dX7_node_26 : decode cX7_node 26 = .ok (.iload_n 1, 1) := by decide +kernel
theorem dX7_node_27 : decode cX7_node 27 = .ok (.iload_n 2, 1) := by decide +kernel
theorem dX7_node_28 : decode cX7_node 28 = .ok (.invokevirtual 154, 3) := by decide +kernel
theorem dX7_node_31 : decode cX7_node 31 = .ok (.invokevirtual 38, 3) := by decide +kernel
theorem dX7_node_34 : decode cX7_node 34 = .ok (.goto 8, 3) := by decide +kernel
theorem dX7_node_37 : decode cX7_node 37 = .ok (.aload_n 0, 1) := by decide +kernel
theorem dX7_node_38 : decode cX7_node 38 = .ok (.iconst 2, 1) := by decide +kernel
theorem dX7_node_39 : decode cX7_node 39 = .ok (.invokevirtual 84, 3) := by decide +kernel
theorem dX7_node_42 : decode cX7_node 42 = .ok (.ireturn, 1) := by decide +kernel
theorem dX7_key_0 : decode cX7_key 0 = .ok (.aload_n 0, 1) := by decide +kernel
theorem dX7_key_1 : decode cX7_key 1 = .ok (.iload_n 1, 1) := by decide +kernel
theorem dX7_key_2 : decode cX7_key 2 = .ok (.invokevirtual 80, 3) := by decide +kernel
theorem dX7_key_5 : decode cX7_key 5 = .ok (.ifCond .ne 9, 3) := by decide +kernel
theorem dX7_key_8 : decode cX7_key 8 = .ok (.aload_n 0, 1) := by decide +kernel
theorem dX7_key_9 : decode cX7_key 9 = .ok (.iconst 1, 1) := by decide +kernel
theorem dX7_key_10 : decode cX7_key 10 = .ok (.invokevirtual 84, 3) := by decide +kernel
theorem dX7_key_13 : decode cX7_key 13 = .ok (.ireturn, 1) := by decide +kernel
theorem dX7_key_14 : decode cX7_key 14 = .ok (.iload_n 2, 1) := by decide +kernel
theorem dX7_key_15 : decode cX7_key 15 = .ok (.ifCond .ge 9, 3) := by decide +kernel
theorem dX7_key_18 : decode cX7_key 18 = .ok (.aload_n 0, 1) := by decide +kernel
theorem dX7_key_19 : decode cX7_key 19 = .ok (.iconst 2, 1) := by decide +kernel
theorem dX7_key_20 : decode cX7_key 20 = .ok (.invokevirtual 84, 3) := by decide +kernel
theorem dX7_key_23 : decode cX7_key 23 = .ok (.ireturn, 1) := by decide +kernel
theorem dX7_key_24 : decode cX7_key 24 = .ok (.aload_n 0, 1) := by decide +kernel
theorem dX7_key_25 : decode cX7_key 25 = .ok (.iload_n 1, 1) := by decide +kernel
theorem dX7_key_26 : decode cX7_key 26 = .ok (.iconst 0, 1) := by decide +kernel
theorem dX7_key_27 : decode cX7_key 27 = .ok (.invokevirtual 74, 3) := by decide +kernel
theorem dX7_key_30 : decode cX7_key 30 = .ok (.istore_n 3, 1) := by decide +kernel
theorem dX7_key_31 : decode cX7_key 31 = .ok (.iconst 0, 1) := by decide +kernel
theorem dX7_key_32 : decode cX7_key 32 = .ok (.istore 4, 2) := by decide +kernel
theorem dX7_key_34 : decode cX7_key 34 = .ok (.iload 4, 2) := by decide +kernel
theorem dX7_key_36 : decode cX7_key 36 = .ok (.iload_n 2, 1) := by decide +kernel
theorem dX7_key_37 : decode cX7_key 37 = .ok (.if_icmp .ge 23, 3) := by decide +kernel
theorem dX7_key_40 : decode cX7_key 40 = .ok (.iload_n 3, 1) := by decide +kernel
theorem dX7_key_41 : decode cX7_key 41 = .ok (.iconst (-1), 1) := by decide +kernel
theorem dX7_key_42 : decode cX7_key 42 = .ok (.if_icmp .eq 18, 3) := by decide +kernel
theorem dX7_key_45 : decode cX7_key 45 = .ok (.aload_n 0, 1) := by decide +kernel
theorem dX7_key_46 : decode cX7_key 46 = .ok (.iload_n 1, 1) := by decide +kernel
theorem dX7_key_47 : decode cX7_key 47 = .ok (.iload_n 3, 1) := by decide +kernel
theorem dX7_key_48 : decode cX7_key 48 = .ok (.iconst 1, 1) := by decide +kernel
theorem dX7_key_49 : decode cX7_key 49 = .ok (.iadd, 1) := by decide +kernel
theorem dX7_key_50 : decode cX7_key 50 = .ok (.invokevirtual 74, 3) := by decide +kernel
theorem dX7_key_53 : decode cX7_key 53 = .ok (.istore_n 3, 1) := by decide +kernel
theorem dX7_key_54 : decode cX7_key 54 = .ok (.iinc 4 1, 3) := by decide +kernel
theorem dX7_key_57 : decode cX7_key 57 = .ok (.goto (-23), 3) := by decide +kernel
theorem dX7_key_60 : decode cX7_key 60 = .ok (.aload_n 0, 1) := by decide +kernel
theorem dX7_key_61 : decode cX7_key 61 = .ok (.iload_n 3, 1) := by decide +kernel
theorem dX7_key_62 : decode cX7_key 62 = .ok (.invokevirtual 38, 3) := by decide +kernel
theorem dX7_key_65 : decode cX7_key 65 = .ok (.ireturn, 1) := by decide +kernel
theorem dX7_baseOf_0 : decode cX7_baseOf 0 = .ok (.aload_n 0, 1) := by decide +kernel
theorem dX7_baseOf_1 : decode cX7_baseOf 1 = .ok (.iload_n 1, 1) := by decide +kernel
theorem dX7_baseOf_2 : decode cX7_baseOf 2 = .ok (.iconst 4, 1) := by decide +kernel
theorem dX7_baseOf_3 : decode cX7_baseOf 3 = .ok (.iload_n 2, 1) := by decide +kernel
theorem dX7_baseOf_4 : decode cX7_baseOf 4 = .ok (.iadd, 1) := by decide +kernel
theorem dX7_baseOf_5 : decode cX7_baseOf 5 = .ok (.invokevirtual 46, 3) := by decide +kernel
theorem dX7_baseOf_8 : decode cX7_baseOf 8 = .ok (.aload_n 0, 1) := by decide +kernel
theorem dX7_baseOf_9 : decode cX7_baseOf 9 = .ok (.iload_n 1, 1) := by decide +kernel
theorem dX7_baseOf_10 : decode cX7_baseOf 10 = .ok (.bipush 28, 2) := by decide +kernel
theorem dX7_baseOf_12 : decode cX7_baseOf 12 = .ok (.iload_n 2, 1) := by decide +kernel
theorem dX7_baseOf_13 : decode cX7_baseOf 13 = .ok (.iadd, 1) := by decide +kernel
theorem dX7_baseOf_14 : decode cX7_baseOf 14 = .ok (.invokevirtual 46, 3) := by decide +kernel
theorem dX7_baseOf_17 : decode cX7_baseOf 17 = .ok (.iconst 1, 1) := by decide +kernel
theorem dX7_baseOf_18 : decode cX7_baseOf 18 = .ok (.if_icmp .ne 9, 3) := by decide +kernel
theorem dX7_baseOf_21 : decode cX7_baseOf 21 = .ok (.sipush 10000, 3) := by decide +kernel
theorem dX7_baseOf_24 : decode cX7_baseOf 24 = .ok (.goto 4, 3) := by decide +kernel
theorem dX7_baseOf_27 : decode cX7_baseOf 27 = .ok (.iconst 0, 1) := by decide +kernel
theorem dX7_baseOf_28 : decode cX7_baseOf 28 = .ok (.iadd, 1) := by decide +kernel
theorem dX7_baseOf_29 : decode cX7_baseOf 29 = .ok (.ireturn, 1) := by decide +kernel
theorem dX7_baseKey_0 : decode cX7_baseKey 0 = .ok (.aload_n 0, 1) := by decide +kernel
theorem dX7_baseKey_1 : decode cX7_baseKey 1 = .ok (.iload_n 1, 1) := by decide +kernel
theorem dX7_baseKey_2 : decode cX7_baseKey 2 = .ok (.invokevirtual 80, 3) := by decide +kernel
theorem dX7_baseKey_5 : decode cX7_baseKey 5 = .ok (.ifCond .ne 9, 3) := by decide +kernel
theorem dX7_baseKey_8 : decode cX7_baseKey 8 = .ok (.aload_n 0, 1) := by decide +kernel
theorem dX7_baseKey_9 : decode cX7_baseKey 9 = .ok (.iconst 1, 1) := by decide +kernel
theorem dX7_baseKey_10 : decode cX7_baseKey 10 = .ok (.invokevirtual 84, 3) := by decide +kernel
theorem dX7_baseKey_13 : decode cX7_baseKey 13 = .ok (.ireturn, 1) := by decide +kernel
theorem dX7_baseKey_14 : decode cX7_baseKey 14 = .ok (.iload_n 2, 1) := by decide +kernel
theorem dX7_baseKey_15 : decode cX7_baseKey 15 = .ok (.ifCond .ge 9, 3) := by decide +kernel
theorem dX7_baseKey_18 : decode cX7_baseKey 18 = .ok (.aload_n 0, 1) := by decide +kernel
theorem dX7_baseKey_19 : decode cX7_baseKey 19 = .ok (.iconst 2, 1) := by decide +kernel
theorem dX7_baseKey_20 : decode cX7_baseKey 20 = .ok (.invokevirtual 84, 3) := by decide +kernel
theorem dX7_baseKey_23 : decode cX7_baseKey 23 = .ok (.ireturn, 1) := by decide +kernel
theorem dX7_baseKey_24 : decode cX7_baseKey 24 = .ok (.aload_n 0, 1) := by decide +kernel
theorem dX7_baseKey_25 : decode cX7_baseKey 25 = .ok (.iload_n 2, 1) := by decide +kernel
theorem dX7_baseKey_26 : decode cX7_baseKey 26 = .ok (.aload_n 0, 1) := by decide +kernel
theorem dX7_baseKey_27 : decode cX7_baseKey 27 = .ok (.iload_n 1, 1) := by decide +kernel
theorem dX7_baseKey_28 : decode cX7_baseKey 28 = .ok (.iconst 3, 1) := by decide +kernel
theorem dX7_baseKey_29 : decode cX7_baseKey 29 = .ok (.invokevirtual 46, 3) := by decide +kernel
theorem dX7_baseKey_32 : decode cX7_baseKey 32 = .ok (.if_icmp .ge 12, 3) := by decide +kernel
theorem dX7_baseKey_35 : decode cX7_baseKey 35 = .ok (.aload_n 0, 1) := by decide +kernel
theorem dX7_baseKey_36 : decode cX7_baseKey 36 = .ok (.iload_n 1, 1) := by decide +kernel
theorem dX7_baseKey_37 : decode cX7_baseKey 37 = .ok (.iload_n 2, 1) := by decide +kernel
theorem dX7_baseKey_38 : decode cX7_baseKey 38 = .ok (.invokevirtual 157, 3) := by decide +kernel
theorem dX7_baseKey_41 : decode cX7_baseKey 41 = .ok (.goto 4, 3) := by decide +kernel
theorem dX7_baseKey_44 : decode cX7_baseKey 44 = .ok (.iconst (-1), 1) := by decide +kernel
theorem dX7_baseKey_45 : decode cX7_baseKey 45 = .ok (.invokevirtual 38, 3) := by decide +kernel
theorem dX7_baseKey_48 : decode cX7_baseKey 48 = .ok (.ireturn, 1) := by decide +kernel
theorem dX7_bufferKey_0 : decode cX7_bufferKey 0 = .ok (.aload_n 0, 1) := by decide +kernel
theorem dX7_bufferKey_1 : decode cX7_bufferKey 1 = .ok (.iload_n 1, 1) := by decide +kernel
theorem dX7_bufferKey_2 : decode cX7_bufferKey 2 = .ok (.invokevirtual 80, 3) := by decide +kernel
theorem dX7_bufferKey_5 : decode cX7_bufferKey 5 = .ok (.ifCond .ne 9, 3) := by decide +kernel
theorem dX7_bufferKey_8 : decode cX7_bufferKey 8 = .ok (.aload_n 0, 1) := by decide +kernel
theorem dX7_bufferKey_9 : decode cX7_bufferKey 9 = .ok (.iconst 1, 1) := by decide +kernel
theorem dX7_bufferKey_10 : decode cX7_bufferKey 10 = .ok (.invokevirtual 84, 3) := by decide +kernel
theorem dX7_bufferKey_13 : decode cX7_bufferKey 13 = .ok (.ireturn, 1) := by decide +kernel
theorem dX7_bufferKey_14 : decode cX7_bufferKey 14 = .ok (.iload_n 2, 1) := by decide +kernel
theorem dX7_bufferKey_15 : decode cX7_bufferKey 15 = .ok (.ifCond .ge 9, 3) := by decide +kernel
theorem dX7_bufferKey_18 : decode cX7_bufferKey 18 = .ok (.aload_n 0, 1) := by decide +kernel
theorem dX7_bufferKey_19 : decode cX7_bufferKey 19 = .ok (.iconst 2, 1) := by decide +kernel
theorem dX7_bufferKey_20 : decode cX7_bufferKey 20 = .ok (.invokevirtual 84, 3) := by decide +kernel
theorem dX7_bufferKey_23 : decode cX7_bufferKey 23 = .ok (.ireturn, 1) := by decide +kernel
theorem dX7_bufferKey_24 : decode cX7_bufferKey 24 = .ok (.aload_n 0, 1) := by decide +kernel
theorem dX7_bufferKey_25 : decode cX7_bufferKey 25 = .ok (.iload_n 2, 1) := by decide +kernel
theorem dX7_bufferKey_26 : decode cX7_bufferKey 26 = .ok (.aload_n 0, 1) := by decide +kernel
theorem dX7_bufferKey_27 : decode cX7_bufferKey 27 = .ok (.iload_n 1, 1) := by decide +kernel
theorem dX7_bufferKey_28 : decode cX7_bufferKey 28 = .ok (.bipush 52, 2) := by decide +kernel
theorem dX7_bufferKey_30 : decode cX7_bufferKey 30 = .ok (.invokevirtual 46, 3) := by decide +kernel
theorem dX7_bufferKey_33 : decode cX7_bufferKey 33 = .ok (.if_icmp .ge 15, 3) := by decide +kernel
theorem dX7_bufferKey_36 : decode cX7_bufferKey 36 = .ok (.aload_n 0, 1) := by decide +kernel
theorem dX7_bufferKey_37 : decode cX7_bufferKey 37 = .ok (.iload_n 1, 1) := by decide +kernel
theorem dX7_bufferKey_38 : decode cX7_bufferKey 38 = .ok (.bipush 53, 2) := by decide +kernel
theorem dX7_bufferKey_40 : decode cX7_bufferKey 40 = .ok (.iload_n 2, 1) := by decide +kernel
theorem dX7_bufferKey_41 : decode cX7_bufferKey 41 = .ok (.iadd, 1) := by decide +kernel
theorem dX7_bufferKey_42 : decode cX7_bufferKey 42 = .ok (.invokevirtual 46, 3) := by decide +kernel
theorem dX7_bufferKey_45 : decode cX7_bufferKey 45 = .ok (.goto 4, 3) := by decide +kernel
theorem dX7_bufferKey_48 : decode cX7_bufferKey 48 = .ok (.iconst (-1), 1) := by decide +kernel
theorem dX7_bufferKey_49 : decode cX7_bufferKey 49 = .ok (.invokevirtual 38, 3) := by decide +kernel
theorem dX7_bufferKey_52 : decode cX7_bufferKey 52 = .ok (.ireturn, 1) := by decide +kernel
theorem dX7_entry_0 : decode cX7_entry 0 = .ok (.aload_n 0, 1) := by decide +kernel
theorem dX7_entry_1 : decode cX7_entry 1 = .ok (.iload_n 1, 1) := by decide +kernel
theorem dX7_entry_2 : decode cX7_entry 2 = .ok (.invokevirtual 80, 3) := by decide +kernel
theorem dX7_entry_5 : decode cX7_entry 5 = .ok (.ifCond .ne 9, 3) := by decide +kernel
theorem dX7_entry_8 : decode cX7_entry 8 = .ok (.aload_n 0, 1) := by decide +kernel
theorem dX7_entry_9 : decode cX7_entry 9 = .ok (.iconst 1, 1) := by decide +kernel
theorem dX7_entry_10 : decode cX7_entry 10 = .ok (.invokevirtual 84, 3) := by decide +kernel
theorem dX7_entry_13 : decode cX7_entry 13 = .ok (.ireturn, 1) := by decide +kernel
theorem dX7_entry_14 : decode cX7_entry 14 = .ok (.iload_n 2, 1) := by decide +kernel
theorem dX7_entry_15 : decode cX7_entry 15 = .ok (.ifCond .lt 12, 3) := by decide +kernel
theorem dX7_entry_18 : decode cX7_entry 18 = .ok (.iload_n 3, 1) := by decide +kernel
theorem dX7_entry_19 : decode cX7_entry 19 = .ok (.iconst 0, 1) := by decide +kernel
theorem dX7_entry_20 : decode cX7_entry 20 = .ok (.iconst 1, 1) := by decide +kernel
theorem dX7_entry_21 : decode cX7_entry 21 = .ok (.invokestatic 42, 3) := by decide +kernel
theorem dX7_entry_24 : decode cX7_entry 24 = .ok (.ifCond .ne 9, 3) := by decide +kernel
theorem dX7_entry_27 : decode cX7_entry 27 = .ok (.aload_n 0, 1) := by decide +kernel
theorem dX7_entry_28 : decode cX7_entry 28 = .ok (.iconst 2, 1) := by decide +kernel
theorem dX7_entry_29 : decode cX7_entry 29 = .ok (.invokevirtual 84, 3) := by decide +kernel
theorem dX7_entry_32 : decode cX7_entry 32 = .ok (.ireturn, 1) := by decide +kernel
theorem dX7_entry_33 : decode cX7_entry 33 = .ok (.aload_n 0, 1) := by decide +kernel
theorem dX7_entry_34 : decode cX7_entry 34 = .ok (.iload_n 2, 1) := by decide +kernel
theorem dX7_entry_35 : decode cX7_entry 35 = .ok (.aload_n 0, 1) := by decide +kernel
theorem dX7_entry_36 : decode cX7_entry 36 = .ok (.iload_n 1, 1) := by decide +kernel
theorem dX7_entry_37 : decode cX7_entry 37 = .ok (.bipush 61, 2) := by decide +kernel
theorem dX7_entry_39 : decode cX7_entry 39 = .ok (.invokevirtual 46, 3) := by decide +kernel
theorem dX7_entry_42 : decode cX7_entry 42 = .ok (.if_icmp .lt 7, 3) := by decide +kernel
theorem dX7_entry_45 : decode cX7_entry 45 = .ok (.iconst (-1), 1) := by decide +kernel
theorem dX7_entry_46 : decode cX7_entry 46 = .ok (.goto 22, 3) := by decide +kernel
theorem dX7_entry_49 : decode cX7_entry 49 = .ok (.aload_n 0, 1) := by decide +kernel
theorem dX7_entry_50 : decode cX7_entry 50 = .ok (.iload_n 1, 1) := by decide +kernel
theorem dX7_entry_51 : decode cX7_entry 51 = .ok (.iload_n 3, 1) := by decide +kernel
theorem dX7_entry_52 : decode cX7_entry 52 = .ok (.ifCond .ne 8, 3) := by decide +kernel
theorem dX7_entry_55 : decode cX7_entry 55 = .ok (.bipush 62, 2) := by decide +kernel
theorem dX7_entry_57 : decode cX7_entry 57 = .ok (.goto 6, 3) := by decide +kernel
theorem dX7_entry_60 : decode cX7_entry 60 = .ok (.sipush 158, 3) := by decide +kernel
theorem dX7_entry_63 : decode cX7_entry 63 = .ok (.iload_n 2, 1) := by decide +kernel
theorem dX7_entry_64 : decode cX7_entry 64 = .ok (.iadd, 1) := by decide +kernel
theorem dX7_entry_65 : decode cX7_entry 65 = .ok (.invokevirtual 46, 3) := by decide +kernel
theorem dX7_entry_68 : decode cX7_entry 68 = .ok (.invokevirtual 38, 3) := by decide +kernel
theorem dX7_entry_71 : decode cX7_entry 71 = .ok (.ireturn, 1) := by decide +kernel
theorem dX7_bridge_0 : decode cX7_bridge 0 = .ok (.aload_n 0, 1) := by decide +kernel
theorem dX7_bridge_1 : decode cX7_bridge 1 = .ok (.iload_n 1, 1) := by decide +kernel
theorem dX7_bridge_2 : decode cX7_bridge 2 = .ok (.invokevirtual 80, 3) := by decide +kernel
theorem dX7_bridge_5 : decode cX7_bridge 5 = .ok (.ifCond .ne 9, 3) := by decide +kernel
theorem dX7_bridge_8 : decode cX7_bridge 8 = .ok (.aload_n 0, 1) := by decide +kernel
theorem dX7_bridge_9 : decode cX7_bridge 9 = .ok (.iconst 1, 1) := by decide +kernel
theorem dX7_bridge_10 : decode cX7_bridge 10 = .ok (.invokevirtual 84, 3) := by decide +kernel
theorem dX7_bridge_13 : decode cX7_bridge 13 = .ok (.ireturn, 1) := by decide +kernel
theorem dX7_bridge_14 : decode cX7_bridge 14 = .ok (.iload_n 2, 1) := by decide +kernel
theorem dX7_bridge_15 : decode cX7_bridge 15 = .ok (.iconst 0, 1) := by decide +kernel
theorem dX7_bridge_16 : decode cX7_bridge 16 = .ok (.aload_n 0, 1) := by decide +kernel
theorem dX7_bridge_17 : decode cX7_bridge 17 = .ok (.iload_n 1, 1) := by decide +kernel
theorem dX7_bridge_18 : decode cX7_bridge 18 = .ok (.bipush 61, 2) := by decide +kernel
theorem dX7_bridge_20 : decode cX7_bridge 20 = .ok (.invokevirtual 46, 3) := by decide +kernel
theorem dX7_bridge_23 : decode cX7_bridge 23 = .ok (.invokestatic 42, 3) := by decide +kernel
theorem dX7_bridge_26 : decode cX7_bridge 26 = .ok (.ifCond .eq 33, 3) := by decide +kernel
theorem dX7_bridge_29 : decode cX7_bridge 29 = .ok (.iload_n 3, 1) := by decide +kernel
theorem dX7_bridge_30 : decode cX7_bridge 30 = .ok (.iconst 0, 1) := by decide +kernel
theorem dX7_bridge_31 : decode cX7_bridge 31 = .ok (.iconst 2, 1) := by decide +kernel
theorem dX7_bridge_32 : decode cX7_bridge 32 = .ok (.invokestatic 42, 3) := by decide +kernel
theorem dX7_bridge_35 : decode cX7_bridge 35 = .ok (.ifCond .eq 24, 3) := by decide +kernel
theorem dX7_bridge_38 : decode cX7_bridge 38 = .ok (.aload_n 0, 1) := by decide +kernel
theorem dX7_bridge_39 : decode cX7_bridge 39 = .ok (.aload_n 0, 1) := by decide +kernel
theorem dX7_bridge_40 : decode cX7_bridge 40 = .ok (.iload_n 1, 1) := by decide +kernel
theorem dX7_bridge_41 : decode cX7_bridge 41 = .ok (.sipush 254, 3) := by decide +kernel
theorem dX7_bridge_44 : decode cX7_bridge 44 = .ok (.iconst 3, 1) := by decide +kernel
theorem dX7_bridge_45 : decode cX7_bridge 45 = .ok (.iload_n 2, 1) := by decide +kernel
theorem dX7_bridge_46 : decode cX7_bridge 46 = .ok (.imul, 1) := by decide +kernel
theorem dX7_bridge_47 : decode cX7_bridge 47 = .ok (.iadd, 1) := by decide +kernel
theorem dX7_bridge_48 : decode cX7_bridge 48 = .ok (.iload_n 3, 1) := by decide +kernel
theorem dX7_bridge_49 : decode cX7_bridge 49 = .ok (.iadd, 1) := by decide +kernel
theorem dX7_bridge_50 : decode cX7_bridge 50 = .ok (.invokevirtual 46, 3) := by decide +kernel
theorem dX7_bridge_53 : decode cX7_bridge 53 = .ok (.invokevirtual 38, 3) := by decide +kernel
theorem dX7_bridge_56 : decode cX7_bridge 56 = .ok (.goto 8, 3) := by decide +kernel
theorem dX7_bridge_59 : decode cX7_bridge 59 = .ok (.aload_n 0, 1) := by decide +kernel
theorem dX7_bridge_60 : decode cX7_bridge 60 = .ok (.iconst 2, 1) := by decide +kernel
theorem dX7_bridge_61 : decode cX7_bridge 61 = .ok (.invokevirtual 84, 3) := by decide +kernel
theorem dX7_bridge_64 : decode cX7_bridge 64 = .ok (.ireturn, 1) := by decide +kernel
theorem dX7_counted_0 : decode cX7_counted 0 = .ok (.iload_n 1, 1) := by decide +kernel
theorem dX7_counted_1 : decode cX7_counted 1 = .ok (.iconst 5, 1) := by decide +kernel
theorem dX7_counted_2 : decode cX7_counted 2 = .ok (.if_icmp .ge 12, 3) := by decide +kernel
theorem dX7_counted_5 : decode cX7_counted 5 = .ok (.aload_n 0, 1) := by decide +kernel
theorem dX7_counted_6 : decode cX7_counted 6 = .ok (.getfield 7, 3) := by decide +kernel
theorem dX7_counted_9 : decode cX7_counted 9 = .ok (.iconst 3, 1) := by decide +kernel
theorem dX7_counted_10 : decode cX7_counted 10 = .ok (.iload_n 1, 1) := by decide +kernel
theorem dX7_counted_11 : decode cX7_counted 11 = .ok (.iadd, 1) := by decide +kernel
theorem dX7_counted_12 : decode cX7_counted 12 = .ok (.iaload, 1) := by decide +kernel
theorem dX7_counted_13 : decode cX7_counted 13 = .ok (.ireturn, 1) := by decide +kernel
theorem dX7_counted_14 : decode cX7_counted 14 = .ok (.iconst 0, 1) := by decide +kernel
theorem dX7_counted_15 : decode cX7_counted 15 = .ok (.istore_n 2, 1) := by decide +kernel
theorem dX7_counted_16 : decode cX7_counted 16 = .ok (.iconst 0, 1) := by decide +kernel
theorem dX7_counted_17 : decode cX7_counted 17 = .ok (.istore_n 3, 1) := by decide +kernel
theorem dX7_counted_18 : decode cX7_counted 18 = .ok (.iload_n 3, 1) := by decide +kernel
theorem dX7_counted_19 : decode cX7_counted 19 = .ok (.aload_n 0, 1) := by decide +kernel
theorem dX7_counted_20 : decode cX7_counted 20 = .ok (.getfield 7, 3) := by decide +kernel
theorem dX7_counted_23 : decode cX7_counted 23 = .ok (.iconst 0, 1) := by decide +kernel
theorem dX7_counted_24 : decode cX7_counted 24 = .ok (.iaload, 1) := by decide +kernel
theorem dX7_counted_25 : decode cX7_counted 25 = .ok (.if_icmp .ge 32, 3) := by decide +kernel
theorem dX7_counted_28 : decode cX7_counted 28 = .ok (.iload_n 2, 1) := by decide +kernel
theorem dX7_counted_29 : decode cX7_counted 29 = .ok (.iload_n 1, 1) := by decide +kernel
theorem dX7_counted_30 : decode cX7_counted 30 = .ok (.iconst 5, 1) := by decide +kernel
theorem dX7_counted_31 : decode cX7_counted 31 = .ok (.if_icmp .ne 11, 3) := by decide +kernel
theorem dX7_counted_34 : decode cX7_counted 34 = .ok (.aload_n 0, 1) := by decide +kernel
theorem dX7_counted_35 : decode cX7_counted 35 = .ok (.iload_n 3, 1) := by decide +kernel
theorem dX7_counted_36 : decode cX7_counted 36 = .ok (.invokevirtual 103, 3) := by decide +kernel
theorem dX7_counted_39 : decode cX7_counted 39 = .ok (.goto 10, 3) := by decide +kernel
theorem dX7_counted_42 : decode cX7_counted 42 = .ok (.aload_n 0, 1) := by decide +kernel
theorem dX7_counted_43 : decode cX7_counted 43 = .ok (.iload_n 3, 1) := by decide +kernel
theorem dX7_counted_44 : decode cX7_counted 44 = .ok (.bipush 61, 2) := by decide +kernel
theorem dX7_counted_46 : decode cX7_counted 46 = .ok (.invokevirtual 46, 3) := by decide +kernel
theorem dX7_counted_49 : decode cX7_counted 49 = .ok (.iadd, 1) := by decide +kernel
theorem dX7_counted_50 : decode cX7_counted 50 = .ok (.istore_n 2, 1) := by decide +kernel
theorem dX7_counted_51 : decode cX7_counted 51 = .ok (.iinc 3 1, 3) := by decide +kernel
theorem dX7_counted_54 : decode cX7_counted 54 = .ok (.goto (-36), 3) := by decide +kernel
theorem dX7_counted_57 : decode cX7_counted 57 = .ok (.iload_n 2, 1) := by decide +kernel
theorem dX7_counted_58 : decode cX7_counted 58 = .ok (.ireturn, 1) := by decide +kernel
theorem dX7_count_0 : decode cX7_count 0 = .ok (.iload_n 1, 1) := by decide +kernel
theorem dX7_count_1 : decode cX7_count 1 = .ok (.iconst 0, 1) := by decide +kernel
theorem dX7_count_2 : decode cX7_count 2 = .ok (.bipush 6, 2) := by decide +kernel
theorem dX7_count_4 : decode cX7_count 4 = .ok (.invokestatic 42, 3) := by decide +kernel
theorem dX7_count_7 : decode cX7_count 7 = .ok (.ifCond .eq 15, 3) := by decide +kernel
theorem dX7_count_10 : decode cX7_count 10 = .ok (.aload_n 0, 1) := by decide +kernel
theorem dX7_count_11 : decode cX7_count 11 = .ok (.aload_n 0, 1) := by decide +kernel
theorem dX7_count_12 : decode cX7_count 12 = .ok (.iload_n 1, 1) := by decide +kernel
theorem dX7_count_13 : decode cX7_count 13 = .ok (.invokevirtual 160, 3) := by decide +kernel
theorem dX7_count_16 : decode cX7_count 16 = .ok (.invokevirtual 38, 3) := by decide +kernel
theorem dX7_count_19 : decode cX7_count 19 = .ok (.goto 8, 3) := by decide +kernel
theorem dX7_count_22 : decode cX7_count 22 = .ok (.aload_n 0, 1) := by decide +kernel
theorem dX7_count_23 : decode cX7_count 23 = .ok (.iconst 1, 1) := by decide +kernel
theorem dX7_count_24 : decode cX7_count 24 = .ok (.invokevirtual 84, 3) := by decide +kernel
theorem dX7_count_27 : decode cX7_count 27 = .ok (.ireturn, 1) := by decide +kernel
theorem dX7_undo_0 : decode cX7_undo 0 = .ok (.aload_n 0, 1) := by decide +kernel
theorem dX7_undo_1 : decode cX7_undo 1 = .ok (.getfield 35, 3) := by decide +kernel
theorem dX7_undo_4 : decode cX7_undo 4 = .ok (.ifCond .ne 9, 3) := by decide +kernel
theorem dX7_undo_7 : decode cX7_undo 7 = .ok (.aload_n 0, 1) := by decide +kernel
theorem dX7_undo_8 : decode cX7_undo 8 = .ok (.iconst 1, 1) := by decide +kernel
theorem dX7_undo_9 : decode cX7_undo 9 = .ok (.invokevirtual 84, 3) := by decide +kernel
theorem dX7_undo_12 : decode cX7_undo 12 = .ok (.ireturn, 1) := by decide +kernel
theorem dX7_undo_13 : decode cX7_undo 13 = .ok (.aload_n 0, 1) := by decide +kernel
theorem dX7_undo_14 : decode cX7_undo 14 = .ok (.dup, 1) := by decide +kernel
theorem dX7_undo_15 : decode cX7_undo 15 = .ok (.getfield 35, 3) := by decide +kernel
theorem dX7_undo_18 : decode cX7_undo 18 = .ok (.iconst 1, 1) := by decide +kernel
theorem dX7_undo_19 : decode cX7_undo 19 = .ok (.isub, 1) := by decide +kernel
theorem dX7_undo_20 : decode cX7_undo 20 = .ok (.putfield 35, 3) := by decide +kernel
theorem dX7_undo_23 : decode cX7_undo 23 = .ok (.iconst 0, 1) := by decide +kernel
theorem dX7_undo_24 : decode cX7_undo 24 = .ok (.istore_n 1, 1) := by decide +kernel
theorem dX7_undo_25 : decode cX7_undo 25 = .ok (.iload_n 1, 1) := by decide +kernel
theorem dX7_undo_26 : decode cX7_undo 26 = .ok (.sipush 8183, 3) := by decide +kernel
theorem dX7_undo_29 : decode cX7_undo 29 = .ok (.if_icmp .ge 30, 3) := by decide +kernel
theorem dX7_undo_32 : decode cX7_undo 32 = .ok (.aload_n 0, 1) := by decide +kernel
theorem dX7_undo_33 : decode cX7_undo 33 = .ok (.getfield 7, 3) := by decide +kernel
theorem dX7_undo_36 : decode cX7_undo 36 = .ok (.iload_n 1, 1) := by decide +kernel
theorem dX7_undo_37 : decode cX7_undo 37 = .ok (.aload_n 0, 1) := by decide +kernel
theorem dX7_undo_38 : decode cX7_undo 38 = .ok (.getfield 13, 3) := by decide +kernel
theorem dX7_undo_41 : decode cX7_undo 41 = .ok (.sipush 8183, 3) := by decide +kernel
theorem dX7_undo_44 : decode cX7_undo 44 = .ok (.aload_n 0, 1) := by decide +kernel
theorem dX7_undo_45 : decode cX7_undo 45 = .ok (.getfield 35, 3) := by decide +kernel
theorem dX7_undo_48 : decode cX7_undo 48 = .ok (.imul, 1) := by decide +kernel
theorem dX7_undo_49 : decode cX7_undo 49 = .ok (.iload_n 1, 1) := by decide +kernel
theorem dX7_undo_50 : decode cX7_undo 50 = .ok (.iadd, 1) := by decide +kernel
theorem dX7_undo_51 : decode cX7_undo 51 = .ok (.iaload, 1) := by decide +kernel
theorem dX7_undo_52 : decode cX7_undo 52 = .ok (.iastore, 1) := by decide +kernel
theorem dX7_undo_53 : decode cX7_undo 53 = .ok (.iinc 1 1, 3) := by decide +kernel
theorem dX7_undo_56 : decode cX7_undo 56 = .ok (.goto (-31), 3) := by decide +kernel
theorem dX7_undo_59 : decode cX7_undo 59 = .ok (.aload_n 0, 1) := by decide +kernel
theorem dX7_undo_60 : decode cX7_undo 60 = .ok (.aload_n 0, 1) := by decide +kernel
theorem dX7_undo_61 : decode cX7_undo 61 = .ok (.getfield 35, 3) := by decide +kernel
theorem dX7_undo_64 : decode cX7_undo 64 = .ok (.invokevirtual 38, 3) := by decide +kernel
theorem dX7_undo_67 : decode cX7_undo 67 = .ok (.ireturn, 1) := by decide +kernel
theorem dX7_mix_0 : decode cX7_mix 0 = .ok (.aload_n 0, 1) := by decide +kernel
theorem dX7_mix_1 : decode cX7_mix 1 = .ok (.ldc2_w 163, 3) := by decide +kernel
theorem dX7_mix_4 : decode cX7_mix 4 = .ok (.aload_n 0, 1) := by decide +kernel
theorem dX7_mix_5 : decode cX7_mix 5 = .ok (.getfield 165, 3) := by decide +kernel
theorem dX7_mix_8 : decode cX7_mix 8 = .ok (.lmul, 1) := by decide +kernel
theorem dX7_mix_9 : decode cX7_mix 9 = .ok (.iload_n 1, 1) := by decide +kernel
theorem dX7_mix_10 : decode cX7_mix 10 = .ok (.i2l, 1) := by decide +kernel
theorem dX7_mix_11 : decode cX7_mix 11 = .ok (.ladd, 1) := by decide +kernel
theorem dX7_mix_12 : decode cX7_mix 12 = .ok (.putfield 165, 3) := by decide +kernel
theorem dX7_mix_15 : decode cX7_mix 15 = .ok (.return_, 1) := by decide +kernel
theorem dX7_mixNode_0 : decode cX7_mixNode 0 = .ok (.iconst 0, 1) := by decide +kernel
theorem dX7_mixNode_1 : decode cX7_mixNode 1 = .ok (.istore_n 2, 1) := by decide +kernel
theorem dX7_mixNode_2 : decode cX7_mixNode 2 = .ok (.iload_n 2, 1) := by decide +kernel
theorem dX7_mixNode_3 : decode cX7_mixNode 3 = .ok (.bipush 9, 2) := by decide +kernel
theorem dX7_mixNode_5 : decode cX7_mixNode 5 = .ok (.if_icmp .ge 19, 3) := by decide +kernel
theorem dX7_mixNode_8 : decode cX7_mixNode 8 = .ok (.aload_n 0, 1) := by decide +kernel
theorem dX7_mixNode_9 : decode cX7_mixNode 9 = .ok (.aload_n 0, 1) := by decide +kernel
theorem dX7_mixNode_10 : decode cX7_mixNode 10 = .ok (.iload_n 1, 1) := by decide +kernel
theorem dX7_mixNode_11 : decode cX7_mixNode 11 = .ok (.iload_n 2, 1) := by decide +kernel
theorem dX7_mixNode_12 : decode cX7_mixNode 12 = .ok (.invokevirtual 154, 3) := by decide +kernel
theorem dX7_mixNode_15 : decode cX7_mixNode 15 = .ok (.invokevirtual 169, 3) := by decide +kernel
theorem dX7_mixNode_18 : decode cX7_mixNode 18 = .ok (.iinc 2 1, 3) := by decide +kernel
theorem dX7_mixNode_21 : decode cX7_mixNode 21 = .ok (.goto (-19), 3) := by decide +kernel
theorem dX7_mixNode_24 : decode cX7_mixNode 24 = .ok (.iconst 0, 1) := by decide +kernel
theorem dX7_mixNode_25 : decode cX7_mixNode 25 = .ok (.istore_n 2, 1) := by decide +kernel
theorem dX7_mixNode_26 : decode cX7_mixNode 26 = .ok (.iload_n 2, 1) := by decide +kernel
theorem dX7_mixNode_27 : decode cX7_mixNode 27 = .ok (.aload_n 0, 1) := by decide +kernel
theorem dX7_mixNode_28 : decode cX7_mixNode 28 = .ok (.iload_n 1, 1) := by decide +kernel
theorem dX7_mixNode_29 : decode cX7_mixNode 29 = .ok (.iconst 3, 1) := by decide +kernel
theorem dX7_mixNode_30 : decode cX7_mixNode 30 = .ok (.invokevirtual 46, 3) := by decide +kernel
theorem dX7_mixNode_33 : decode cX7_mixNode 33 = .ok (.if_icmp .ge 19, 3) := by decide +kernel
theorem dX7_mixNode_36 : decode cX7_mixNode 36 = .ok (.aload_n 0, 1) := by decide +kernel
theorem dX7_mixNode_37 : decode cX7_mixNode 37 = .ok (.aload_n 0, 1) := by decide +kernel
theorem dX7_mixNode_38 : decode cX7_mixNode 38 = .ok (.iload_n 1, 1) := by decide +kernel
theorem dX7_mixNode_39 : decode cX7_mixNode 39 = .ok (.iload_n 2, 1) := by decide +kernel
theorem dX7_mixNode_40 : decode cX7_mixNode 40 = .ok (.invokevirtual 157, 3) := by decide +kernel
theorem dX7_mixNode_43 : decode cX7_mixNode 43 = .ok (.invokevirtual 169, 3) := by decide +kernel
theorem dX7_mixNode_46 : decode cX7_mixNode 46 = .ok (.iinc 2 1, 3) := by decide +kernel
theorem dX7_mixNode_49 : decode cX7_mixNode 49 = .ok (.goto (-23), 3) := by decide +kernel
theorem dX7_mixNode_52 : decode cX7_mixNode 52 = .ok (.iconst 0, 1) := by decide +kernel
theorem dX7_mixNode_53 : decode cX7_mixNode 53 = .ok (.istore_n 2, 1) := by decide +kernel
theorem dX7_mixNode_54 : decode cX7_mixNode 54 = .ok (.iload_n 2, 1) := by decide +kernel
theorem dX7_mixNode_55 : decode cX7_mixNode 55 = .ok (.aload_n 0, 1) := by decide +kernel
theorem dX7_mixNode_56 : decode cX7_mixNode 56 = .ok (.iload_n 1, 1) := by decide +kernel
theorem dX7_mixNode_57 : decode cX7_mixNode 57 = .ok (.bipush 52, 2) := by decide +kernel
theorem dX7_mixNode_59 : decode cX7_mixNode 59 = .ok (.invokevirtual 46, 3) := by decide +kernel
theorem dX7_mixNode_62 : decode cX7_mixNode 62 = .ok (.if_icmp .ge 22, 3) := by decide +kernel
theorem dX7_mixNode_65 : decode cX7_mixNode 65 = .ok (.aload_n 0, 1) := by decide +kernel
theorem dX7_mixNode_66 : decode cX7_mixNode 66 = .ok (.aload_n 0, 1) := by decide +kernel
theorem dX7_mixNode_67 : decode cX7_mixNode 67 = .ok (.iload_n 1, 1) := by decide +kernel
theorem dX7_mixNode_68 : decode cX7_mixNode 68 = .ok (.bipush 53, 2) := by decide +kernel
theorem dX7_mixNode_70 : decode cX7_mixNode 70 = .ok (.iload_n 2, 1) := by decide +kernel
theorem dX7_mixNode_71 : decode cX7_mixNode 71 = .ok (.iadd, 1) := by decide +kernel
theorem dX7_mixNode_72 : decode cX7_mixNode 72 = .ok (.invokevirtual 46, 3) := by decide +kernel
theorem dX7_mixNode_75 : decode cX7_mixNode 75 = .ok (.invokevirtual 169, 3) := by decide +kernel
theorem dX7_mixNode_78 : decode cX7_mixNode 78 = .ok (.iinc 2 1, 3) := by decide +kernel
theorem dX7_mixNode_81 : decode cX7_mixNode 81 = .ok (.goto (-27), 3) := by decide +kernel
theorem dX7_mixNode_84 : decode cX7_mixNode 84 = .ok (.iconst 0, 1) := by decide +kernel
theorem dX7_mixNode_85 : decode cX7_mixNode 85 = .ok (.istore_n 2, 1) := by decide +kernel
theorem dX7_mixNode_86 : decode cX7_mixNode 86 = .ok (.iload_n 2, 1) := by decide +kernel
theorem dX7_mixNode_87 : decode cX7_mixNode 87 = .ok (.aload_n 0, 1) := by decide +kernel
theorem dX7_mixNode_88 : decode cX7_mixNode 88 = .ok (.iload_n 1, 1) := by decide +kernel
theorem dX7_mixNode_89 : decode cX7_mixNode 89 = .ok (.bipush 61, 2) := by decide +kernel
theorem dX7_mixNode_91 : decode cX7_mixNode 91 = .ok (.invokevirtual 46, 3) := by decide +kernel
theorem dX7_mixNode_94 : decode cX7_mixNode 94 = .ok (.if_icmp .ge 67, 3) := by decide +kernel
theorem dX7_mixNode_97 : decode cX7_mixNode 97 = .ok (.aload_n 0, 1) := by decide +kernel
theorem dX7_mixNode_98 : decode cX7_mixNode 98 = .ok (.aload_n 0, 1) := by decide +kernel
theorem dX7_mixNode_99 : decode cX7_mixNode 99 = .ok (.iload_n 1, 1) := by decide +kernel
theorem dX7_mixNode_100 : decode cX7_mixNode 100 = .ok (.bipush 62, 2) := by decide +kernel
theorem dX7_mixNode_102 : decode cX7_mixNode 102 = .ok (.iload_n 2, 1) := by decide +kernel
theorem dX7_mixNode_103 : decode cX7_mixNode 103 = .ok (.iadd, 1) := by decide +kernel
theorem dX7_mixNode_104 : decode cX7_mixNode 104 = .ok (.invokevirtual 46, 3) := by decide +kernel
theorem dX7_mixNode_107 : decode cX7_mixNode 107 = .ok (.invokevirtual 169, 3) := by decide +kernel
theorem dX7_mixNode_110 : decode cX7_mixNode 110 = .ok (.aload_n 0, 1) := by decide +kernel
theorem dX7_mixNode_111 : decode cX7_mixNode 111 = .ok (.aload_n 0, 1) := by decide +kernel
theorem dX7_mixNode_112 : decode cX7_mixNode 112 = .ok (.iload_n 1, 1) := by decide +kernel
theorem dX7_mixNode_113 : decode cX7_mixNode 113 = .ok (.sipush 158, 3) := by decide +kernel
theorem dX7_mixNode_116 : decode cX7_mixNode 116 = .ok (.iload_n 2, 1) := by decide +kernel
theorem dX7_mixNode_117 : decode cX7_mixNode 117 = .ok (.iadd, 1) := by decide +kernel
theorem dX7_mixNode_118 : decode cX7_mixNode 118 = .ok (.invokevirtual 46, 3) := by decide +kernel
theorem dX7_mixNode_121 : decode cX7_mixNode 121 = .ok (.invokevirtual 169, 3) := by decide +kernel
theorem dX7_mixNode_124 : decode cX7_mixNode 124 = .ok (.iconst 0, 1) := by decide +kernel
theorem dX7_mixNode_125 : decode cX7_mixNode 125 = .ok (.istore_n 3, 1) := by decide +kernel
theorem dX7_mixNode_126 : decode cX7_mixNode 126 = .ok (.iload_n 3, 1) := by decide +kernel
theorem dX7_mixNode_127 : decode cX7_mixNode 127 = .ok (.iconst 2, 1) := by decide +kernel
theorem dX7_mixNode_128 : decode cX7_mixNode 128 = .ok (.if_icmp .gt 27, 3) := by decide +kernel
theorem dX7_mixNode_131 : decode cX7_mixNode 131 = .ok (.aload_n 0, 1) := by decide +kernel
theorem dX7_mixNode_132 : decode cX7_mixNode 132 = .ok (.aload_n 0, 1) := by decide +kernel
theorem dX7_mixNode_133 : decode cX7_mixNode 133 = .ok (.iload_n 1, 1) := by decide +kernel
theorem dX7_mixNode_134 : decode cX7_mixNode 134 = .ok (.sipush 254, 3) := by decide +kernel
theorem dX7_mixNode_137 : decode cX7_mixNode 137 = .ok (.iconst 3, 1) := by decide +kernel
theorem dX7_mixNode_138 : decode cX7_mixNode 138 = .ok (.iload_n 2, 1) := by decide +kernel
theorem dX7_mixNode_139 : decode cX7_mixNode 139 = .ok (.imul, 1) := by decide +kernel
theorem dX7_mixNode_140 : decode cX7_mixNode 140 = .ok (.iadd, 1) := by decide +kernel
theorem dX7_mixNode_141 : decode cX7_mixNode 141 = .ok (.iload_n 3, 1) := by decide +kernel
theorem dX7_mixNode_142 : decode cX7_mixNode 142 = .ok (.iadd, 1) := by decide +kernel
theorem dX7_mixNode_143 : decode cX7_mixNode 143 = .ok (.invokevirtual 46, 3) := by decide +kernel
theorem dX7_mixNode_146 : decode cX7_mixNode 146 = .ok (.invokevirtual 169, 3) := by decide +kernel
theorem dX7_mixNode_149 : decode cX7_mixNode 149 = .ok (.iinc 3 1, 3) := by decide +kernel
theorem dX7_mixNode_152 : decode cX7_mixNode 152 = .ok (.goto (-26), 3) := by decide +kernel
theorem dX7_mixNode_155 : decode cX7_mixNode 155 = .ok (.iinc 2 1, 3) := by decide +kernel
theorem dX7_mixNode_158 : decode cX7_mixNode 158 = .ok (.goto (-72), 3) := by decide +kernel
theorem dX7_mixNode_161 : decode cX7_mixNode 161 = .ok (.aload_n 0, 1) := by decide +kernel
theorem dX7_mixNode_162 : decode cX7_mixNode 162 = .ok (.aload_n 0, 1) := by decide +kernel
theorem dX7_mixNode_163 : decode cX7_mixNode 163 = .ok (.iload_n 1, 1) := by decide +kernel
theorem dX7_mixNode_164 : decode cX7_mixNode 164 = .ok (.invokevirtual 148, 3) := by decide +kernel
theorem dX7_mixNode_167 : decode cX7_mixNode 167 = .ok (.invokevirtual 169, 3) := by decide +kernel
theorem dX7_mixNode_170 : decode cX7_mixNode 170 = .ok (.return_, 1) := by decide +kernel
theorem dX7_digest_0 : decode cX7_digest 0 = .ok (.aload_n 0, 1) := by decide +kernel
theorem dX7_digest_1 : decode cX7_digest 1 = .ok (.iconst 0, 1) := by decide +kernel
theorem dX7_digest_2 : decode cX7_digest 2 = .ok (.putfield 31, 3) := by decide +kernel
theorem dX7_digest_5 : decode cX7_digest 5 = .ok (.aload_n 0, 1) := by decide +kernel
theorem dX7_digest_6 : decode cX7_digest 6 = .ok (.ldc2_w 172, 3) := by decide +kernel
theorem dX7_digest_9 : decode cX7_digest 9 = .ok (.putfield 165, 3) := by decide +kernel
theorem dX7_digest_12 : decode cX7_digest 12 = .ok (.aload_n 0, 1) := by decide +kernel
theorem dX7_digest_13 : decode cX7_digest 13 = .ok (.aload_n 0, 1) := by decide +kernel
theorem dX7_digest_14 : decode cX7_digest 14 = .ok (.getfield 35, 3) := by decide +kernel
theorem dX7_digest_17 : decode cX7_digest 17 = .ok (.invokevirtual 169, 3) := by decide +kernel
theorem dX7_digest_20 : decode cX7_digest 20 = .ok (.aload_n 0, 1) := by decide +kernel
theorem dX7_digest_21 : decode cX7_digest 21 = .ok (.aload_n 0, 1) := by decide +kernel
theorem dX7_digest_22 : decode cX7_digest 22 = .ok (.getfield 7, 3) := by decide +kernel
theorem dX7_digest_25 : decode cX7_digest 25 = .ok (.iconst 1, 1) := by decide +kernel
theorem dX7_digest_26 : decode cX7_digest 26 = .ok (.iaload, 1) := by decide +kernel
theorem dX7_digest_27 : decode cX7_digest 27 = .ok (.invokevirtual 169, 3) := by decide +kernel
theorem dX7_digest_30 : decode cX7_digest 30 = .ok (.aload_n 0, 1) := by decide +kernel
theorem dX7_digest_31 : decode cX7_digest 31 = .ok (.aload_n 0, 1) := by decide +kernel
theorem dX7_digest_32 : decode cX7_digest 32 = .ok (.getfield 7, 3) := by decide +kernel
theorem dX7_digest_35 : decode cX7_digest 35 = .ok (.iconst 2, 1) := by decide +kernel
theorem dX7_digest_36 : decode cX7_digest 36 = .ok (.iaload, 1) := by decide +kernel
theorem dX7_digest_37 : decode cX7_digest 37 = .ok (.invokevirtual 169, 3) := by decide +kernel
theorem dX7_digest_40 : decode cX7_digest 40 = .ok (.aload_n 0, 1) := by decide +kernel
theorem dX7_digest_41 : decode cX7_digest 41 = .ok (.aload_n 0, 1) := by decide +kernel
theorem dX7_digest_42 : decode cX7_digest 42 = .ok (.getfield 7, 3) := by decide +kernel
theorem dX7_digest_45 : decode cX7_digest 45 = .ok (.iconst 0, 1) := by decide +kernel
theorem dX7_digest_46 : decode cX7_digest 46 = .ok (.iaload, 1) := by decide +kernel
theorem dX7_digest_47 : decode cX7_digest 47 = .ok (.invokevirtual 169, 3) := by decide +kernel
theorem dX7_digest_50 : decode cX7_digest 50 = .ok (.iconst 0, 1) := by decide +kernel
theorem dX7_digest_51 : decode cX7_digest 51 = .ok (.istore_n 1, 1) := by decide +kernel
theorem dX7_digest_52 : decode cX7_digest 52 = .ok (.iload_n 1, 1) := by decide +kernel
theorem dX7_digest_53 : decode cX7_digest 53 = .ok (.aload_n 0, 1) := by decide +kernel
theorem dX7_digest_54 : decode cX7_digest 54 = .ok (.getfield 7, 3) := by decide +kernel
theorem dX7_digest_57 : decode cX7_digest 57 = .ok (.iconst 0, 1) := by decide +kernel
theorem dX7_digest_58 : decode cX7_digest 58 = .ok (.iaload, 1) := by decide +kernel
theorem dX7_digest_59 : decode cX7_digest 59 = .ok (.if_icmp .ge 14, 3) := by decide +kernel
theorem dX7_digest_62 : decode cX7_digest 62 = .ok (.aload_n 0, 1) := by decide +kernel
theorem dX7_digest_63 : decode cX7_digest 63 = .ok (.iload_n 1, 1) := by decide +kernel
theorem dX7_digest_64 : decode cX7_digest 64 = .ok (.invokevirtual 174, 3) := by decide +kernel
theorem dX7_digest_67 : decode cX7_digest 67 = .ok (.iinc 1 1, 3) := by decide +kernel
theorem dX7_digest_70 : decode cX7_digest 70 = .ok (.goto (-18), 3) := by decide +kernel
theorem dX7_digest_73 : decode cX7_digest 73 = .ok (.iconst 0, 1) := by decide +kernel
theorem dX7_digest_74 : decode cX7_digest 74 = .ok (.istore_n 1, 1) := by decide +kernel
theorem dX7_digest_75 : decode cX7_digest 75 = .ok (.iload_n 1, 1) := by decide +kernel
theorem dX7_digest_76 : decode cX7_digest 76 = .ok (.bipush 7, 2) := by decide +kernel
theorem dX7_digest_78 : decode cX7_digest 78 = .ok (.if_icmp .ge 18, 3) := by decide +kernel
theorem dX7_digest_81 : decode cX7_digest 81 = .ok (.aload_n 0, 1) := by decide +kernel
theorem dX7_digest_82 : decode cX7_digest 82 = .ok (.aload_n 0, 1) := by decide +kernel
theorem dX7_digest_83 : decode cX7_digest 83 = .ok (.iload_n 1, 1) := by decide +kernel
theorem dX7_digest_84 : decode cX7_digest 84 = .ok (.invokevirtual 160, 3) := by decide +kernel
theorem dX7_digest_87 : decode cX7_digest 87 = .ok (.invokevirtual 169, 3) := by decide +kernel
theorem dX7_digest_90 : decode cX7_digest 90 = .ok (.iinc 1 1, 3) := by decide +kernel
theorem dX7_digest_93 : decode cX7_digest 93 = .ok (.goto (-18), 3) := by decide +kernel
theorem dX7_digest_96 : decode cX7_digest 96 = .ok (.aload_n 0, 1) := by decide +kernel
theorem dX7_digest_97 : decode cX7_digest 97 = .ok (.getfield 165, 3) := by decide +kernel
theorem dX7_digest_100 : decode cX7_digest 100 = .ok (.lreturn, 1) := by decide +kernel
end
section
/-! The world of all cells that the law has made: L the addresses, E what lies at each; every contract speaks of the whole of it. -/
abbrev bq_E : Type := Nat → va_E
/-- the classes' numbers and slots; the classes of int[], long[], Catalog[], Tree[] -/
abbrev bq_G : Type := va_G × ClassId × ClassId × ClassId × ClassId
def bq_tys (g : bq_G) : List (ClassId × FieldType) := [(g.2.1, .int), (g.2.2.1, .long), (g.2.2.2.1, .object RX0), (g.2.2.2.2, .object RX4)]
def bq_ok (g : bq_G) (e : va_E) : Prop := match e with
  | .inl (c, n, .inl _) => c = g.2.1 ∧ n < 2147483648
  | .inl (c, n, .inr (.inl _)) => c = g.2.2.1 ∧ n < 2147483648
  | .inl (c, n, .inr (.inr (.inr (.inr _)))) => (c = g.2.2.2.1 ∨ c = g.2.2.2.2) ∧ n < 2147483648
  | .inl (_, _, .inr (.inr (.inl _))) => False
  | .inl (_, _, .inr (.inr (.inr (.inl _)))) => False
  | .inr _ => True
def bq_okE (g : bq_G) (L : List Nat) (E : bq_E) : Prop := (∀ a, a ∈ L → bq_ok g (E a)) ∧ ∀ a, a ∉ L → E a = .inr (99, [])
def bq_A (z : Nat) : Nat → Prop := fun q => z ≤ q
/-- the world, and what has changed since the method's entry -/
def bq_H (g : bq_G) (L : List Nat) (E : bq_E) (z : Nat) (H0 H : Heap) (locs : List Loc) : Prop :=
  va_P g.1 vwCl (va_pl L E) H ∧ va_D (bq_A z) (va_pl L E) ∧ bq_okE g L E ∧ va_S (bq_A z) H0 H locs
def bq_U (g : bq_G) (L : List Nat) (E : bq_E) (z : Nat) (U : State) : Prop :=
  z ≤ U.heap.size ∧ va_P g.1 vwCl (va_pl L E) U.heap ∧ va_D (bq_A z) (va_pl L E) ∧ bq_okE g L E ∧ va_K g.1 vwCl (bq_tys g) U
def bq_Q (g : bq_G) (L : List Nat) (E : bq_E) (z : Nat) (v : Option Value) : Array Value → State → Outcome → State → Prop :=
  fun _ st oc t => (oc = .returned v ∧ bq_U g L E z t) ∧ va_F (bq_A z) st t
/-- the exception X leaves, the world is as E says -/
def bq_X (g : bq_G) (L : List Nat) (E : bq_E) (z : Nat) (X : String) : String → State → State → Prop :=
  fun Y st t => Y = X ∧ bq_U g L E z t ∧ va_F (bq_A z) st t
/-- all words of the tables that hold for any caller -/
def bq_WA : List Cond := lw_tbl.filter goodWord
def bq_ws (y : MethodName) (cc : ByteArray) (maxL : Nat) (ret : Option FieldType) : List Cond := .code y cc maxL ret :: bq_WA
theorem bq_wi {w : Cond} (i : Nat) (h : lw_tbl[i]? = some w) (hg : goodWord w = true) : w ∈ bq_WA := List.mem_filter.mpr ⟨List.mem_of_getElem? h, hg⟩
theorem bq_good {ws : List Cond} (h : ∀ w ∈ ws, w ∈ bq_WA) : GoodIn bq_WA ws := fun w hw => ⟨h w hw, good_of_word (List.mem_filter.mp (h w hw)).2⟩
theorem bq_hts {args : Array Value} {s : State} {w0 : Cond} (h : ∀ w ∈ w0 :: bq_WA, w.before args s = true) : ∀ w ∈ bq_WA, w.before args s = true := fun w hw => h w (List.mem_cons_of_mem _ hw)
-- what a twin may do with the world
def bq_fv (E : bq_E) (a ci k : Nat) : Option Value := match E a with
  | .inr (c, fs) => if c = ci then fs[k]? else none
  | .inl _ => none
def bq_fi (E : bq_E) (a ci k : Nat) : Option Int32 := match bq_fv E a ci k with
  | some (.int v) => some v
  | _ => none
def bq_fl (E : bq_E) (a ci k : Nat) : Option Int64 := match bq_fv E a ci k with
  | some (.long v) => some v
  | _ => none
def bq_fr (E : bq_E) (a ci k : Nat) : Option Nat := match bq_fv E a ci k with
  | some (.ref v) => some v
  | _ => none
def bq_p (E : bq_E) (a ci k : Nat) (v : Value) : Option bq_E := match E a with
  | .inr (c, fs) => if c = ci ∧ k < fs.length then some (va_up E a (.inr (c, fs.set k v))) else none
  | .inl _ => none
def bq_len (E : bq_E) (a : Nat) : Option Int32 := match E a with
  | .inl (_, n, _) => some (Int32.ofNat n)
  | .inr _ => none
def bq_ai (E : bq_E) (a : Nat) (i : Int32) : Option Int32 := match E a with
  | .inl (_, n, .inl f) => if i < 0 ∨ n ≤ i.toNatClampNeg then none else some (f i.toNatClampNeg)
  | _ => none
def bq_si (E : bq_E) (a : Nat) (i v : Int32) : Option bq_E := match E a with
  | .inl (c, n, .inl f) => if i < 0 ∨ n ≤ i.toNatClampNeg then none else some (va_up E a (.inl (c, n, .inl (upd f i.toNatClampNeg v))))
  | _ => none
def bq_al (E : bq_E) (a : Nat) (i : Int32) : Option Int64 := match E a with
  | .inl (_, n, .inr (.inl f)) => if i < 0 ∨ n ≤ i.toNatClampNeg then none else some (f i.toNatClampNeg)
  | _ => none
def bq_sl (E : bq_E) (a : Nat) (i : Int32) (v : Int64) : Option bq_E := match E a with
  | .inl (c, n, .inr (.inl f)) => if i < 0 ∨ n ≤ i.toNatClampNeg then none else some (va_up E a (.inl (c, n, .inr (.inl (vp_updL f i.toNatClampNeg v)))))
  | _ => none
def bq_ar (E : bq_E) (a : Nat) (i : Int32) : Option (Option Nat) := match E a with
  | .inl (_, n, .inr (.inr (.inr (.inr f)))) => if i < 0 ∨ n ≤ i.toNatClampNeg then none else some (f i.toNatClampNeg)
  | _ => none
def bq_cp (E : bq_E) (a : Nat) (i : Int32) (b : Nat) (j n : Int32) : Option bq_E := match E a, E b with
  | .inl (_, n0, .inl f), .inl (c, n1, .inl h) => if i < 0 ∨ j < 0 ∨ n < 0 ∨ n0 < i.toNatClampNeg + n.toNatClampNeg ∨ n1 < j.toNatClampNeg + n.toNatClampNeg then none else some (va_up E b (.inl (c, n1, .inl (va_cpy f h i.toNatClampNeg j.toNatClampNeg n.toNatClampNeg))))
  | _, _ => none
def bq_cls (E : bq_E) (a : Nat) : Nat := match E a with
  | .inr (c, _) => c
  | .inl _ => 100
def bq_b (b : Bool) : Int32 := if b then 1 else 0
def bq_let {α : Type} {β : Type} (e : α) (f : α → β) : β := f e
def bq_fuel : Nat := 1000000
-- the rows of the twins' own words
theorem bq_bind {α β : Type} {x : Option α} {f : α → Option β} {r : β} (h : x.bind f = some r) : ∃ v, x = some v ∧ f v = some r := by
  cases x with
  | none => cases h
  | some v => exact ⟨v, rfl, h⟩
theorem bq_letE {α β : Type} {e y : α} {f : α → Option β} {r : β} (e1 : y = e) (h : bq_let e f = some r) : f y = some r := by rw [e1]; exact h
theorem bq_ifT {α : Type} {c : Prop} [Decidable c] {x y r : α} (hc : c) (h : (if c then x else y) = r) : x = r := by rw [if_pos hc] at h; exact h
theorem bq_ifF {α : Type} {c : Prop} [Decidable c] {x y r : α} (hc : ¬ c) (h : (if c then x else y) = r) : y = r := by rw [if_neg hc] at h; exact h
theorem bq_guard {α : Type} {c : Prop} [Decidable c] {x : Option α} {r : α} (h : (if c then x else none) = some r) : c ∧ x = some r := by
  by_cases hc : c
  · rw [if_pos hc] at h; exact ⟨hc, h⟩
  · rw [if_neg hc] at h; cases h
theorem bq_b01 (b : Bool) : narrow .boolean (.int (bq_b b)) = .int (bq_b b) := by cases b <;> rfl
section BqKeep
variable {g : bq_G} {L : List Nat} {E : bq_E} {z : Nat} {H0 H : Heap} {locs : List Loc} {a : Nat}
theorem bq_inL (hk : bq_okE g L E) {e : va_E} (h : E a = e) (hne : e ≠ .inr (99, [])) : a ∈ L := by
  by_cases ha : a ∈ L
  · exact ha
  · exact absurd (h.symm.trans (hk.2 a ha)) hne
theorem bq_at {e : va_E} (hk : bq_okE g L E) (h : E a = e) (hne : e ≠ .inr (99, [])) : ∃ k : Nat, (va_pl L E)[k]? = some (a, e) := by
  obtain ⟨k, hk⟩ := va_pl_get (X := []) (f := E) (bq_inL hk h hne)
  exact ⟨k, by rw [← h]; exact hk⟩
theorem bq_set (hk : bq_okE g L E) (hD : va_D (bq_A z) (va_pl L E)) {e e' : va_E} (h : E a = e) (hne : e ≠ .inr (99, [])) {k : Nat} (hq : (va_pl L E)[k]? = some (a, e)) : (va_pl L E).set k (a, e') = va_pl L (va_up E a e') := by
  have := va_pl_set (X := []) (e := e') hD (bq_inL hk h hne) (k := k) (by rw [h]; exact hq)
  simpa using this
theorem bq_okup (hk : bq_okE g L E) {e : va_E} (ha : a ∈ L) (he : bq_ok g e) : bq_okE g L (va_up E a e) := by
  refine ⟨fun b hb => ?_, fun b hb => ?_⟩
  · by_cases h : b = a
    · subst h; rw [va_up_self]; exact he
    · rw [va_up_ne _ _ h]; exact hk.1 b hb
  · rw [va_up_ne _ _ (fun h : b = a => hb (h ▸ ha))]; exact hk.2 b hb
theorem bq_fvE {ci k : Nat} {v : Value} (h : bq_fv E a ci k = some v) : ∃ fs, E a = .inr (ci, fs) ∧ fs[k]? = some v := by
  unfold bq_fv at h
  split at h
  · rename_i c fs he
    split at h
    · rename_i hc; subst hc; exact ⟨fs, he, h⟩
    · cases h
  · cases h
theorem bq_fiE {ci k : Nat} {v : Int32} (h : bq_fi E a ci k = some v) : bq_fv E a ci k = some (.int v) := by
  unfold bq_fi at h
  split at h
  · rename_i w hw; rw [hw]; cases h; rfl
  · cases h
theorem bq_flE {ci k : Nat} {v : Int64} (h : bq_fl E a ci k = some v) : bq_fv E a ci k = some (.long v) := by
  unfold bq_fl at h
  split at h
  · rename_i w hw; rw [hw]; cases h; rfl
  · cases h
theorem bq_frE {ci k : Nat} {v : Nat} (h : bq_fr E a ci k = some v) : bq_fv E a ci k = some (.ref v) := by
  unfold bq_fr at h
  split at h
  · rename_i w hw; rw [hw]; cases h; rfl
  · cases h
theorem bq_pE {ci k : Nat} {v : Value} {E' : bq_E} (h : bq_p E a ci k v = some E') : ∃ fs, E a = .inr (ci, fs) ∧ k < fs.length ∧ E' = va_up E a (.inr (ci, fs.set k v)) := by
  unfold bq_p at h
  split at h
  · rename_i c fs he
    split at h
    · rename_i hc; obtain ⟨rfl, hl⟩ := hc; cases h; exact ⟨fs, he, hl, rfl⟩
    · cases h
  · cases h
theorem bq_lenE {v : Int32} (h : bq_len E a = some v) : ∃ c x, E a = .inl (c, x) ∧ Int32.ofNat x.1 = v := by
  unfold bq_len at h
  split at h
  · rename_i c n x he; cases h; exact ⟨c, (n, x), he, rfl⟩
  · cases h
theorem bq_aiE {i v : Int32} (h : bq_ai E a i = some v) : ∃ c n f, E a = .inl (c, n, .inl f) ∧ vp_in i n ∧ v = f i.toNatClampNeg := by
  unfold bq_ai at h
  split at h
  · rename_i c n f he
    split at h
    · cases h
    · rename_i hc; cases h; exact ⟨c, n, f, he, hc, rfl⟩
  · cases h
theorem bq_siE {i v : Int32} {E' : bq_E} (h : bq_si E a i v = some E') : ∃ c n f, E a = .inl (c, n, .inl f) ∧ vp_in i n ∧ E' = va_up E a (.inl (c, n, .inl (upd f i.toNatClampNeg v))) := by
  unfold bq_si at h
  split at h
  · rename_i c n f he
    split at h
    · cases h
    · rename_i hc; cases h; exact ⟨c, n, f, he, hc, rfl⟩
  · cases h
theorem bq_alE {i : Int32} {v : Int64} (h : bq_al E a i = some v) : ∃ c n f, E a = .inl (c, n, .inr (.inl f)) ∧ vp_in i n ∧ v = f i.toNatClampNeg := by
  unfold bq_al at h
  split at h
  · rename_i c n f he
    split at h
    · cases h
    · rename_i hc; cases h; exact ⟨c, n, f, he, hc, rfl⟩
  · cases h
theorem bq_slE {i : Int32} {v : Int64} {E' : bq_E} (h : bq_sl E a i v = some E') : ∃ c n f, E a = .inl (c, n, .inr (.inl f)) ∧ vp_in i n ∧ E' = va_up E a (.inl (c, n, .inr (.inl (vp_updL f i.toNatClampNeg v)))) := by
  unfold bq_sl at h
  split at h
  · rename_i c n f he
    split at h
    · cases h
    · rename_i hc; cases h; exact ⟨c, n, f, he, hc, rfl⟩
  · cases h
theorem bq_arE {i : Int32} {v : Option Nat} (h : bq_ar E a i = some v) : ∃ c n f, E a = .inl (c, n, .inr (.inr (.inr (.inr f)))) ∧ vp_in i n ∧ v = f i.toNatClampNeg := by
  unfold bq_ar at h
  split at h
  · rename_i c n f he
    split at h
    · cases h
    · rename_i hc; cases h; exact ⟨c, n, f, he, hc, rfl⟩
  · cases h
theorem bq_cpE {i j n : Int32} {b : Nat} {E' : bq_E} (h : bq_cp E a i b j n = some E') : ∃ c0 n0 f c1 n1 f1, E a = .inl (c0, n0, .inl f) ∧ E b = .inl (c1, n1, .inl f1) ∧ ¬ i < 0 ∧ ¬ j < 0 ∧ ¬ n < 0 ∧ i.toNatClampNeg + n.toNatClampNeg ≤ n0 ∧ j.toNatClampNeg + n.toNatClampNeg ≤ n1 ∧ E' = va_up E b (.inl (c1, n1, .inl (va_cpy f f1 i.toNatClampNeg j.toNatClampNeg n.toNatClampNeg))) := by
  unfold bq_cp at h
  split at h
  · rename_i c0 n0 f c1 n1 f1 he he1
    split at h
    · cases h
    · rename_i hc
      cases h
      exact ⟨c0, n0, f, c1, n1, f1, he, he1, fun q => hc (Or.inl q), fun q => hc (Or.inr (Or.inl q)), fun q => hc (Or.inr (Or.inr (Or.inl q))), Nat.not_lt.mp fun q => hc (Or.inr (Or.inr (Or.inr (Or.inl q)))), Nat.not_lt.mp fun q => hc (Or.inr (Or.inr (Or.inr (Or.inr q)))), rfl⟩
  · cases h
theorem bq_clsE {ci : Nat} (h : bq_cls E a = ci) (hc : ci < 99) : ∃ fs, E a = .inr (ci, fs) := by
  unfold bq_cls at h
  split at h
  · rename_i c fs he; exact ⟨fs, by rw [he, h]⟩
  · omega
end BqKeep
def bq_opt {α : Type} (o : Option Nat) (x : α) (f : Nat → α) : α := match o with
  | none => x
  | some v => f v
def bq_elim {α β : Type} (o : α ⊕ String) (f : α → β) (g : String → β) : β := match o with
  | .inl v => f v
  | .inr v => g v
theorem bq_optN {α : Type} {x r : α} {f : Nat → α} (h : bq_opt none x f = r) : x = r := h
theorem bq_optS {α : Type} {x r : α} {f : Nat → α} {v : Nat} (h : bq_opt (some v) x f = r) : f v = r := h
theorem bq_elimL {α β : Type} {f : α → β} {g : String → β} {v : α} {r : β} (h : bq_elim (.inl v) f g = r) : f v = r := h
theorem bq_elimR {α β : Type} {f : α → β} {g : String → β} {v : String} {r : β} (h : bq_elim (.inr v) f g = r) : g v = r := h
theorem bq_letK {α β : Type} {e : α} {f : α → β} {r : β} (h : bq_let e f = r) : ∃ k, k = e ∧ f k = r := ⟨e, rfl, h⟩
theorem bq_kap1 {α β : Type} {k f : α → β} {x : α} {r : β} (e : k = f) (h : k x = r) : f x = r := e ▸ h
theorem bq_kap2 {α β γ : Type} {k f : α → β → γ} {x : α} {y : β} {r : γ} (e : k = f) (h : k x y = r) : f x y = r := e ▸ h
theorem bq_kap3 {α β γ δ : Type} {k f : α → β → γ → δ} {x : α} {y : β} {w : γ} {r : δ} (e : k = f) (h : k x y w = r) : f x y w = r := e ▸ h
theorem bq_kap4 {α β γ δ ε : Type} {k f : α → β → γ → δ → ε} {x : α} {y : β} {w : γ} {v : δ} {r : ε} (e : k = f) (h : k x y w v = r) : f x y w v = r := e ▸ h
theorem bq_kap5 {α β γ δ ε ζ : Type} {k f : α → β → γ → δ → ε → ζ} {x : α} {y : β} {w : γ} {v : δ} {u : ε} {r : ζ} (e : k = f) (h : k x y w v u = r) : f x y w v u = r := e ▸ h
theorem bq_pairE {α : Type} {x : Option (α × bq_E)} {v : α × bq_E} {q : α} (hq : v.1 = q) (h : x = some v) : x = some (q, v.2) := by rw [h, ← hq]
theorem bq_inW {C : String} {T : u_T} {N : Nat} (h : (u_ws C T N).all (fun w => decide (w ∈ lw_tbl) && goodWord w) = true) : ∀ w ∈ u_ws C T N, w ∈ bq_WA := by
  intro w hw
  have h1 := List.all_eq_true.mp h w hw
  simp only [Bool.and_eq_true, decide_eq_true_eq] at h1
  exact List.mem_filter.mpr h1
end
section
/-- a field by its place in the class file own, pool entry index: field k of class ci -/
def bq_FL (own : String) (index ci k : Nat) : Prop := ∃ (C : String) (T : u_T) (N : Nat), vwCl[ci]? = some (C, T, N) ∧ k < N ∧ (∀ w ∈ u_ws C T N, w ∈ bq_WA) ∧ Cond.fieldLink own index (T k).1 (T k).2.1 (T k).2.2.1 ∈ bq_WA
/-- .. that may be written with values of type ty -/
def bq_FP (own : String) (index ci k : Nat) (ty : FieldType) : Prop := ∃ (C : String) (T : u_T) (N : Nat) (ty0 : Nat → FieldType), vwCl[ci]? = some (C, T, N) ∧ k < N ∧ (∀ w ∈ u_ws C T N, w ∈ bq_WA) ∧ Cond.fieldLink own index (T k).1 (T k).2.1 (T k).2.2.1 ∈ bq_WA ∧ (∀ k, k < N → parseFieldDescriptor (T k).2.2.1 = some (ty0 k)) ∧ (∀ a, a < N → ∀ b, b < N → a ≠ b → (T a).2.1 ≠ (T b).2.1) ∧ (T k).2.2.2 = false ∧ parseFieldDescriptor (T k).2.2.1 = some ty
/-- a method called by the pool entry index of the class file own, on objects of class ci -/
def bq_MV (own : String) (index ci : Nat) (y : MethodName) (cc : ByteArray) (maxL : Nat) (ret : Option FieldType) (n : Nat) : Prop := ∃ (C : String) (T : u_T) (N : Nat), vwCl[ci]? = some (C, T, N) ∧ GoodIn bq_WA (wsV own index C y (bq_ws y cc maxL ret)) ∧ (y.cls = C ∧ y.cls ≠ "java/lang/invoke/MethodHandle" ∧ y.cls ≠ "java/lang/invoke/VarHandle" ∧ (parseMethodDescriptor y.desc).map (fun d => d.parameters.length) = some n)
def bq_MS (own : String) (index : Nat) (y : MethodName) (cc : ByteArray) (maxL : Nat) (ret : Option FieldType) (n : Nat) : Prop := GoodIn bq_WA (va_wsS own index y (bq_ws y cc maxL ret)) ∧ (y.cls ≠ "java/lang/invoke/MethodHandle" ∧ y.cls ≠ "java/lang/invoke/VarHandle" ∧ (parseMethodDescriptor y.desc).map (fun d => d.parameters.length) = some n)
theorem bq_inV {own C : String} {index : Nat} {y : MethodName} {cc : ByteArray} {maxL : Nat} {ret : Option FieldType} (h1 : Cond.methodLink own index y ∈ bq_WA) (h2 : Cond.instanceMethod y ∈ bq_WA) (h3 : Cond.selects C y y ∈ bq_WA) (h4 : Cond.initialized C ∈ bq_WA) (h5 : Cond.code y cc maxL ret ∈ bq_WA) : GoodIn bq_WA (wsV own index C y (bq_ws y cc maxL ret)) := by
  refine bq_good fun w hw => ?_
  rcases List.mem_append.mp hw with h | h
  · simp only [List.mem_cons, List.not_mem_nil, or_false] at h
    rcases h with rfl | rfl | rfl | rfl
    · exact h1
    · exact h2
    · exact h3
    · exact h4
  · rcases List.mem_cons.mp h with rfl | h
    · exact h5
    · exact h
theorem bq_inS {own : String} {index : Nat} {y : MethodName} {cc : ByteArray} {maxL : Nat} {ret : Option FieldType} (h1 : Cond.methodLink own index y ∈ bq_WA) (h2 : Cond.static y ∈ bq_WA) (h4 : Cond.initialized y.cls ∈ bq_WA) (h5 : Cond.code y cc maxL ret ∈ bq_WA) : GoodIn bq_WA (va_wsS own index y (bq_ws y cc maxL ret)) := by
  refine bq_good fun w hw => ?_
  rcases List.mem_append.mp hw with h | h
  · simp only [List.mem_cons, List.not_mem_nil, or_false] at h
    rcases h with rfl | rfl | rfl
    · exact h1
    · exact h2
    · exact h4
  · rcases List.mem_cons.mp h with rfl | h
    · exact h5
    · exact h
section BqRows
variable {p : Program} {l : Launch} {e : Env} {R : Room} {s : State} {m : MethodId} {args : Array Value} {below : List Frame} {meth : Method} {c : Code} {H : Heap} {locs : List Loc} {cells slots : Nat} {Q : State → Prop}
variable {cc : ByteArray} {nL pc : Nat} {own : String} {ls : Array Slot} {rest : List Value} {g : bq_G} {L : List Nat} {E E' : bq_E} {z : Nat} {H0 : Heap} {a ci k index : Nat}
theorem bq_H.mk (h1 : va_P g.1 vwCl (va_pl L E) H) (h2 : va_D (bq_A z) (va_pl L E)) (h3 : bq_okE g L E) (h4 : va_S (bq_A z) H0 H locs) : bq_H g L E z H0 H locs := ⟨h1, h2, h3, h4⟩
theorem bq_get (S : CallFix p m c cc nL s args bq_WA own) (hK : va_K g.1 vwCl (bq_tys g) s) (F : bq_FL own index ci k) (hdg : decode cc pc = .ok (.getfield index, 3)) {v : Value} (hv : bq_fv E a ci k = some v) (hW : bq_H g L E z H0 H locs)
    (kk : W p l e R s m args below meth c H locs cells slots Q (F0 m (pc + 3) ls (v :: rest))) : W p l e R s m args below meth c H locs cells slots Q (F0 m pc ls (.ref a :: rest)) := by
  obtain ⟨hx, hb, -, hown, hts⟩ := S
  obtain ⟨C, T, N, hc, hk, hin, hl⟩ := F
  obtain ⟨fs, hE, hf⟩ := bq_fvE hv
  obtain ⟨q0, hq⟩ := bq_at hW.2.2.1 hE (fun h => by have := congrArg (fun e : va_E => match e with | .inr (c, _) => c | .inl _ => 100) h; dsimp only at this; subst this; simp [vwCl] at hc)
  exact va_get hx hb hts hin hown hK hW.1 q0 hq hc k hk (hts _ hl) (fun _ h => h) hf hdg kk
theorem bq_geti (S : CallFix p m c cc nL s args bq_WA own) (hK : va_K g.1 vwCl (bq_tys g) s) (F : bq_FL own index ci k) (hdg : decode cc pc = .ok (.getfield index, 3)) {v : Int32} (hv : bq_fi E a ci k = some v) (hW : bq_H g L E z H0 H locs)
    (kk : W p l e R s m args below meth c H locs cells slots Q (F0 m (pc + 3) ls (.int v :: rest))) : W p l e R s m args below meth c H locs cells slots Q (F0 m pc ls (.ref a :: rest)) := bq_get S hK F hdg (bq_fiE hv) hW kk
theorem bq_getl (S : CallFix p m c cc nL s args bq_WA own) (hK : va_K g.1 vwCl (bq_tys g) s) (F : bq_FL own index ci k) (hdg : decode cc pc = .ok (.getfield index, 3)) {v : Int64} (hv : bq_fl E a ci k = some v) (hW : bq_H g L E z H0 H locs)
    (kk : W p l e R s m args below meth c H locs cells slots Q (F0 m (pc + 3) ls (.long v :: rest))) : W p l e R s m args below meth c H locs cells slots Q (F0 m pc ls (.ref a :: rest)) := bq_get S hK F hdg (bq_flE hv) hW kk
theorem bq_getr (S : CallFix p m c cc nL s args bq_WA own) (hK : va_K g.1 vwCl (bq_tys g) s) (F : bq_FL own index ci k) (hdg : decode cc pc = .ok (.getfield index, 3)) {v : Nat} (hv : bq_fr E a ci k = some v) (hW : bq_H g L E z H0 H locs)
    (kk : W p l e R s m args below meth c H locs cells slots Q (F0 m (pc + 3) ls (.ref v :: rest))) : W p l e R s m args below meth c H locs cells slots Q (F0 m pc ls (.ref a :: rest)) := bq_get S hK F hdg (bq_frE hv) hW kk
theorem bq_put (S : CallFix p m c cc nL s args bq_WA own) (hK : va_K g.1 vwCl (bq_tys g) s) {ty : FieldType} (F : bq_FP own index ci k ty) (hdg : decode cc pc = .ok (.putfield index, 3)) {v : Value} (hn : narrow ty v = v) (hfit : fits ty v = true) (hv : bq_p E a ci k v = some E') (hW : bq_H g L E z H0 H locs)
    (kk : ∀ (H1 : Heap) (locs1 : List Loc), bq_H g L E' z H0 H1 locs1 → W p l e R s m args below meth c H1 locs1 cells slots Q (F0 m (pc + 3) ls rest)) : W p l e R s m args below meth c H locs cells slots Q (F0 m pc ls (v :: .ref a :: rest)) := by
  obtain ⟨hx, hb, -, hown, hts⟩ := S
  obtain ⟨C, T, N, ty0, hc, hk, hin, hl, hty, hnm, hfin, hd⟩ := F
  obtain ⟨fs, hE, hf, rfl⟩ := bq_pE hv
  have hne : (.inr (ci, fs) : va_E) ≠ .inr (99, []) := fun h => by have := congrArg (fun e : va_E => match e with | .inr (c, _) => c | .inl _ => 100) h; dsimp only at this; subst this; simp [vwCl] at hc
  obtain ⟨q0, hq⟩ := bq_at hW.2.2.1 hE hne
  refine va_put hx hb hts hin ty0 hty hnm hown hK hW.1 hW.2.1 hW.2.2.2 q0 hq hc k hk (hts _ hl) (fun _ h => h) hfin hd hn hfit hf hdg (fun H1 locs1 h1 h2 h3 => kk H1 locs1 ?_)
  rw [bq_set hW.2.2.1 hW.2.1 hE hne hq] at h1 h2
  exact ⟨h1, h2, bq_okup hW.2.2.1 (bq_inL hW.2.2.1 hE hne) trivial, h3⟩
theorem bq_puti (S : CallFix p m c cc nL s args bq_WA own) (hK : va_K g.1 vwCl (bq_tys g) s) (F : bq_FP own index ci k .int) (hdg : decode cc pc = .ok (.putfield index, 3)) {v : Int32} (hv : bq_p E a ci k (.int v) = some E') (hW : bq_H g L E z H0 H locs)
    (kk : ∀ (H1 : Heap) (locs1 : List Loc), bq_H g L E' z H0 H1 locs1 → W p l e R s m args below meth c H1 locs1 cells slots Q (F0 m (pc + 3) ls rest)) : W p l e R s m args below meth c H locs cells slots Q (F0 m pc ls (.int v :: .ref a :: rest)) := bq_put S hK F hdg rfl rfl hv hW kk
theorem bq_putl (S : CallFix p m c cc nL s args bq_WA own) (hK : va_K g.1 vwCl (bq_tys g) s) (F : bq_FP own index ci k .long) (hdg : decode cc pc = .ok (.putfield index, 3)) {v : Int64} (hv : bq_p E a ci k (.long v) = some E') (hW : bq_H g L E z H0 H locs)
    (kk : ∀ (H1 : Heap) (locs1 : List Loc), bq_H g L E' z H0 H1 locs1 → W p l e R s m args below meth c H1 locs1 cells slots Q (F0 m (pc + 3) ls rest)) : W p l e R s m args below meth c H locs cells slots Q (F0 m pc ls (.long v :: .ref a :: rest)) := bq_put S hK F hdg rfl rfl hv hW kk
theorem bq_inlne {x : ClassId × vp_A} : (.inl x : va_E) ≠ .inr (99, []) := fun h => nomatch h
theorem bq_alen (S : CallFix p m c cc nL s args bq_WA own) (hK : va_K g.1 vwCl (bq_tys g) s) (hdg : decode cc pc = .ok (.arraylength, 1)) {v : Int32} (hv : bq_len E a = some v) (hW : bq_H g L E z H0 H locs)
    (kk : W p l e R s m args below meth c H locs cells slots Q (F0 m (pc + 1) ls (.int v :: rest))) : W p l e R s m args below meth c H locs cells slots Q (F0 m pc ls (.ref a :: rest)) := by
  obtain ⟨hx, hb, -, hown, hts⟩ := S
  obtain ⟨cA, ⟨n, x⟩, hE, hn⟩ := bq_lenE hv
  obtain ⟨q0, hq⟩ := bq_at hW.2.2.1 hE bq_inlne
  have ho := hW.2.2.1.1 a (bq_inL hW.2.2.1 hE bq_inlne)
  rw [hE] at ho
  obtain ⟨t0, ty, ht⟩ : ∃ (t0 : Nat) (ty : FieldType), (bq_tys g)[t0]? = some (cA, ty) := by
    match x, ho with
    | .inl f, ho => exact ⟨0, .int, by rw [ho.1]; rfl⟩
    | .inr (.inl f), ho => exact ⟨1, .long, by rw [ho.1]; rfl⟩
    | .inr (.inr (.inl f)), ho => exact ho.elim
    | .inr (.inr (.inr (.inl f))), ho => exact ho.elim
    | .inr (.inr (.inr (.inr f))), ho =>
      rcases ho.1 with h | h
      · exact ⟨2, .object RX0, by rw [h]; rfl⟩
      · exact ⟨3, .object RX4, by rw [h]; rfl⟩
  exact va_alen hx hb hK hW.1 q0 t0 hq ht hn hdg kk
theorem bq_iald (S : CallFix p m c cc nL s args bq_WA own) (hK : va_K g.1 vwCl (bq_tys g) s) (hdg : decode cc pc = .ok (.iaload, 1)) {i v : Int32} (hv : bq_ai E a i = some v) (hW : bq_H g L E z H0 H locs)
    (kk : W p l e R s m args below meth c H locs cells slots Q (F0 m (pc + 1) ls (.int v :: rest))) : W p l e R s m args below meth c H locs cells slots Q (F0 m pc ls (.int i :: .ref a :: rest)) := by
  obtain ⟨hx, hb, -, hown, hts⟩ := S
  obtain ⟨cA, n, f, hE, hin, rfl⟩ := bq_aiE hv
  obtain ⟨q0, hq⟩ := bq_at hW.2.2.1 hE bq_inlne
  have ho := hW.2.2.1.1 a (bq_inL hW.2.2.1 hE bq_inlne)
  rw [hE] at ho
  exact va_iald hx hb hK hW.1 q0 0 hq (by rw [ho.1]; rfl) hin hdg kk
theorem bq_iast (S : CallFix p m c cc nL s args bq_WA own) (hK : va_K g.1 vwCl (bq_tys g) s) (hdg : decode cc pc = .ok (.iastore, 1)) {i v : Int32} (hv : bq_si E a i v = some E') (hW : bq_H g L E z H0 H locs)
    (kk : ∀ (H1 : Heap) (locs1 : List Loc), bq_H g L E' z H0 H1 locs1 → W p l e R s m args below meth c H1 locs1 cells slots Q (F0 m (pc + 1) ls rest)) : W p l e R s m args below meth c H locs cells slots Q (F0 m pc ls (.int v :: .int i :: .ref a :: rest)) := by
  obtain ⟨hx, hb, -, hown, hts⟩ := S
  obtain ⟨cA, n, f, hE, hin, rfl⟩ := bq_siE hv
  obtain ⟨q0, hq⟩ := bq_at hW.2.2.1 hE bq_inlne
  have haL := bq_inL hW.2.2.1 hE bq_inlne
  have ho := hW.2.2.1.1 a haL
  rw [hE] at ho
  refine va_iast hx hb hK hW.1 hW.2.1 hW.2.2.2 q0 0 hq (by rw [ho.1]; rfl) hin hdg (fun H1 locs1 h1 h2 h3 => kk H1 locs1 ?_)
  rw [bq_set hW.2.2.1 hW.2.1 hE bq_inlne hq] at h1 h2
  exact ⟨h1, h2, bq_okup hW.2.2.1 haL ho, h3⟩
theorem bq_lald (S : CallFix p m c cc nL s args bq_WA own) (hK : va_K g.1 vwCl (bq_tys g) s) (hdg : decode cc pc = .ok (.laload, 1)) {i : Int32} {v : Int64} (hv : bq_al E a i = some v) (hW : bq_H g L E z H0 H locs)
    (kk : W p l e R s m args below meth c H locs cells slots Q (F0 m (pc + 1) ls (.long v :: rest))) : W p l e R s m args below meth c H locs cells slots Q (F0 m pc ls (.int i :: .ref a :: rest)) := by
  obtain ⟨hx, hb, -, hown, hts⟩ := S
  obtain ⟨cA, n, f, hE, hin, rfl⟩ := bq_alE hv
  obtain ⟨q0, hq⟩ := bq_at hW.2.2.1 hE bq_inlne
  have ho := hW.2.2.1.1 a (bq_inL hW.2.2.1 hE bq_inlne)
  rw [hE] at ho
  exact va_lald hx hb hK hW.1 q0 1 hq (by rw [ho.1]; rfl) hin hdg kk
theorem bq_last (S : CallFix p m c cc nL s args bq_WA own) (hK : va_K g.1 vwCl (bq_tys g) s) (hdg : decode cc pc = .ok (.lastore, 1)) {i : Int32} {v : Int64} (hv : bq_sl E a i v = some E') (hW : bq_H g L E z H0 H locs)
    (kk : ∀ (H1 : Heap) (locs1 : List Loc), bq_H g L E' z H0 H1 locs1 → W p l e R s m args below meth c H1 locs1 cells slots Q (F0 m (pc + 1) ls rest)) : W p l e R s m args below meth c H locs cells slots Q (F0 m pc ls (.long v :: .int i :: .ref a :: rest)) := by
  obtain ⟨hx, hb, -, hown, hts⟩ := S
  obtain ⟨cA, n, f, hE, hin, rfl⟩ := bq_slE hv
  obtain ⟨q0, hq⟩ := bq_at hW.2.2.1 hE bq_inlne
  have haL := bq_inL hW.2.2.1 hE bq_inlne
  have ho := hW.2.2.1.1 a haL
  rw [hE] at ho
  refine va_last hx hb hK hW.1 hW.2.1 hW.2.2.2 q0 1 hq (by rw [ho.1]; rfl) hin hdg (fun H1 locs1 h1 h2 h3 => kk H1 locs1 ?_)
  rw [bq_set hW.2.2.1 hW.2.1 hE bq_inlne hq] at h1 h2
  exact ⟨h1, h2, bq_okup hW.2.2.1 haL ho, h3⟩
theorem bq_aald (S : CallFix p m c cc nL s args bq_WA own) (hK : va_K g.1 vwCl (bq_tys g) s) (hdg : decode cc pc = .ok (.aaload, 1)) {i : Int32} {v : Option Nat} (hv : bq_ar E a i = some v) (hW : bq_H g L E z H0 H locs)
    (kk : W p l e R s m args below meth c H locs cells slots Q (F0 m (pc + 1) ls (va_rf v :: rest))) : W p l e R s m args below meth c H locs cells slots Q (F0 m pc ls (.int i :: .ref a :: rest)) := by
  obtain ⟨hx, hb, -, hown, hts⟩ := S
  obtain ⟨cA, n, f, hE, hin, rfl⟩ := bq_arE hv
  obtain ⟨q0, hq⟩ := bq_at hW.2.2.1 hE bq_inlne
  have ho := hW.2.2.1.1 a (bq_inL hW.2.2.1 hE bq_inlne)
  rw [hE] at ho
  rcases ho.1 with h | h
  · exact va_aldq hx hb hK hW.1 q0 2 (C := RX0) hq (by rw [h]; rfl) hin hdg kk
  · exact va_aldq hx hb hK hW.1 q0 3 (C := RX4) hq (by rw [h]; rfl) hin hdg kk
theorem bq_copy (S : CallFix p m c cc nL s args bq_WA own) (hK : va_K g.1 vwCl (bq_tys g) s) (hsz : nL = ls.size) (w1 : Cond.methodLink own index arraycopyName ∈ bq_WA) (w2 : Cond.native arraycopyName ∈ bq_WA) (w3 : Cond.static arraycopyName ∈ bq_WA) (w4 : Cond.initialized "java/lang/System" ∈ bq_WA)
    (hdg : decode cc pc = .ok (.invokestatic index, 3)) (hframes : 1 ≤ R.frames) (hlocals : (rest.map fun v => v.category).sum + (nativeFrameWords "java/lang/System" "arraycopy" 5 + 11) ≤ R.locals) {b : Nat} {i j n : Int32} (hv : bq_cp E a i b j n = some E') (hW : bq_H g L E z H0 H locs)
    (kk : ∀ (H1 : Heap) (locs1 : List Loc), bq_H g L E' z H0 H1 locs1 → W p l e R s m args below meth c H1 locs1 cells slots Q (F0 m (pc + 3) ls rest)) : W p l e R s m args below meth c H locs cells slots Q (F0 m pc ls (.int n :: .int j :: .ref b :: .int i :: .ref a :: rest)) := by
  obtain ⟨hx, hb, hml, hown, hts⟩ := S
  obtain ⟨c0, n0, f, c1, n1, f1, hE, hE1, h1, h2, h3, h4, h5, rfl⟩ := bq_cpE hv
  obtain ⟨q0, hq⟩ := bq_at hW.2.2.1 hE bq_inlne
  obtain ⟨q1, hq1⟩ := bq_at hW.2.2.1 hE1 bq_inlne
  have haL := bq_inL hW.2.2.1 hE bq_inlne
  have hbL := bq_inL hW.2.2.1 hE1 bq_inlne
  have ho := hW.2.2.1.1 a haL
  have ho1 := hW.2.2.1.1 b hbL
  rw [hE] at ho
  rw [hE1] at ho1
  refine va_copyi hx hb (hml.trans hsz) hown (hts _ w1) (hts _ w2) (hts _ w3) (hts _ w4) hK hW.1 hW.2.1 hW.2.2.2 q0 q1 0 0 (ty := .int) hq hq1 (by rw [ho.1]; rfl) (by rw [ho1.1]; rfl) rfl h1 h2 h3 h4 h5 (fun _ _ => rfl) hframes hlocals hdg (fun H1 locs1 g1 g2 g3 => kk H1 locs1 ?_)
  rw [bq_set hW.2.2.1 hW.2.1 hE1 bq_inlne hq1] at g1 g2
  exact ⟨g1, g2, bq_okup hW.2.2.1 hbL ho1, g3⟩
end BqRows
end
section
/-- a contract: from the world E with these arguments the method returns v, the world is then E' -/
def bq_M (l : Launch) (y : MethodName) (cc : ByteArray) (maxL : Nat) (ret : Option FieldType) (fr lo : Nat) (As : List Value) (g : bq_G) (L : List Nat) (E : bq_E) (z : Nat) (v : Option Value) (E' : bq_E) : Prop :=
  Met l y (bq_ws y cc maxL ret) { frames := fr, cells := 0, slots := 0, locals := lo } (va_Pc As (bq_U g L E z)) (bq_Q g L E' z v) 0 0 (bq_A z)
theorem bq_blind {As : List Value} {g : bq_G} {L : List Nat} {E : bq_E} {z : Nat} : FrameBlind (va_Pc As (bq_U g L E z)) := by
  intro a U f mk q
  obtain ⟨rfl, q1, q2, q3, q4, q5⟩ := q
  exact ⟨rfl, q1, q2, q3, q4, va_K.moved (u := U) (U := U.calling f mk As.toArray) (Vm.Alike.refl U.vm) q5⟩
theorem bq_enter {l : Launch} {y : MethodName} {cc : ByteArray} {maxL : Nat} {ret : Option FieldType} {fr lo : Nat} {As : List Value} {g : bq_G} {L : List Nat} {E : bq_E} {z : Nat} {v : Option Value} {E' : bq_E} (hy : plainName y.cls = true) (hn : (lg_sl As).length ≤ maxL)
    (body : ∀ (p : Program) (e : Env) (s : State) (m : MethodId) (args : Array Value) (below : List Frame) (meth : Method) (c : Code), CallFix p m c cc maxL s args bq_WA y.cls → meth.sig.returnType = ret → meth.locks = false → va_K g.1 vwCl (bq_tys g) s → z ≤ s.heap.size → bq_H g L E z s.heap s.heap [] → ∀ ls : Array Slot, lv_has ls maxL (lv_args 0 As) →
      W p l e { frames := fr, cells := 0, slots := 0, locals := lo } s m args below meth c s.heap [] 0 0 (MQ below (bq_Q g L E' z v) args s 0 0 (bq_A z)) (F0 m 0 ls [])) :
    bq_M l y cc maxL ret fr lo As g L E z v E' := by
  refine Met.ofW (cc := cc) (maxL := maxL) (ret := ret) (ws' := bq_WA) hy rfl ?_
  intro p e s m args below meth c s₁ B hml hv
  obtain ⟨rfl, hz, hP, hD, hO, hK⟩ := hv
  have hts := bq_hts (atoms_spec (ws := bq_ws y cc maxL ret) B.pre)
  have hl := lv_entry As (n := maxL) hn
  rw [lg_entry_eq]
  exact body p e s m As.toArray below meth c ⟨B.exec, B.bytes, hml, findClass_of_methodNamed B.named, hts⟩ B.returns B.notSynchronized hK hz ⟨hP, hD, hO, va_S.rf⟩ _ hl
section BqCalls
variable {p : Program} {l : Launch} {e : Env} {R : Room} {s : State} {m : MethodId} {args : Array Value} {below : List Frame} {meth : Method} {c : Code} {H : Heap} {locs : List Loc} {cells slots : Nat} {Q : State → Prop}
variable {cc cc' : ByteArray} {nL pc maxL fr lo n : Nat} {own : String} {ls : Array Slot} {st rest As : List Value} {g : bq_G} {L : List Nat} {E E' : bq_E} {z : Nat} {b ci index : Nat} {y : MethodName} {ret : Option FieldType} {v : Option Value}
theorem bq_run {a : Array Value} {len : Nat} {st2 : List Value} (hS : va_S (bq_A z) s.heap H locs)
    (hr : va_Run p l e R s m args below meth c H locs cells slots 0 0 (F0 m pc ls st) rest (bq_Q g L E' z v a) (bq_A z))
    (hv : v.toList ++ rest = st2) (hlen : len = 3)
    (kk : ∀ (H1 : Heap) (locs1 : List Loc), bq_H g L E' z s.heap H1 locs1 → W p l e R s m args below meth c H1 locs1 cells slots Q (F0 m (pc + 3) ls st2)) : W p l e R s m args below meth c H locs cells slots Q (F0 m pc ls st) := by
  subst hv
  intro T hT X
  obtain ⟨v', st₀, t, T', L', h0, X', hL, e1, e2, ⟨⟨hv, hU⟩, hF⟩, hst⟩ := hr T hT X
  cases hv
  obtain ⟨u1, u2, u3, u4, u5⟩ := hU
  obtain ⟨f1, f2⟩ := hF
  rw [h0] at f1 f2
  have hW1 : bq_H g L E' z s.heap T'.heap (locs ++ L') := by
    refine ⟨by rw [e1]; exact u2, u3, u4, Nat.le_trans hS.1 (by rw [e1]; exact f1), fun q h1 h2 => ?_, fun q hq => ?_⟩
    · rw [e1, f2 q (Nat.lt_of_lt_of_le h1 hS.1) h2]; exact hS.2.1 q h1 h2
    · rcases List.mem_append.mp hq with h | h
      · exact hS.2.2 q h
      · exact hL q h
  obtain ⟨t2, a1, b1⟩ := kk T'.heap (locs ++ L') hW1 T' rfl X'
  exact ⟨t2, hst t2 a1, b1⟩
theorem bq_pre (hK : va_K g.1 vwCl (bq_tys g) s) (hz : z ≤ s.heap.size) (hW : bq_H g L E z s.heap H locs) (U : State) (hU : U.heap = H) (hw : s.WarmedH U.vm) : bq_U g L E z U :=
  ⟨by rw [hU]; exact Nat.le_trans hz hW.2.2.2.1, by rw [hU]; exact hW.1, hW.2.1, hW.2.2.1, va_K.moved hw.alike hK⟩
theorem bq_callV (S : CallFix p m c cc nL s args bq_WA own) (hK : va_K g.1 vwCl (bq_tys g) s) (hz : z ≤ s.heap.size) (M : bq_MV own index ci y cc' maxL ret n) (hM : bq_M l y cc' maxL ret fr lo (.ref b :: As) g L E z v E') (hcl : bq_cls E b = ci) (hdg : decode cc pc = .ok (.invokevirtual index, 3)) (st2 : List Value)
    (hst : st = As.reverse ++ .ref b :: rest) (hv : v.toList ++ rest = st2) (hn : As.length = n) (hsize : ls.size = nL) (hrest : (rest.map fun v => v.category).sum ≤ 8) (hR : fr + 1 ≤ R.frames ∧ 8 + (maxL + 11) + lo ≤ R.locals) (hcs : cells ≤ R.cells ∧ slots ≤ R.slots) (hW : bq_H g L E z s.heap H locs)
    (kk : ∀ (H1 : Heap) (locs1 : List Loc), bq_H g L E' z s.heap H1 locs1 → W p l e R s m args below meth c H1 locs1 cells slots Q (F0 m (pc + 3) ls st2)) : W p l e R s m args below meth c H locs cells slots Q (F0 m pc ls st) := by
  obtain ⟨C, T, N, hc, hg, hd⟩ := M
  have hci : ci < 99 := by
    have := (List.getElem?_eq_some_iff.mp hc).1
    have h8 : vwCl.length = 8 := rfl
    omega
  obtain ⟨fs, hE⟩ := bq_clsE hcl hci
  obtain ⟨q0, hq⟩ := bq_at hW.2.2.1 hE (fun h => by have := congrArg (fun e : va_E => match e with | .inr (c, _) => c | .inl _ => 100) h; dsimp only at this; omega)
  refine bq_run (a := (Value.ref b :: As).toArray) hW.2.2.2 (va_runV (As := As) (b := b) (rest := rest) S hM (cwV n S.2.2.2.2 hg rfl rfl rfl hd hR) ⟨bq_blind, va_recv hK hW.1 hc hq, fun U hU hw => ⟨rfl, bq_pre hK hz hW U hU hw⟩⟩ rfl hn hsize hst ?_ hdg ⟨hcs.1, hcs.2⟩) hv rfl kk
  show 2 * 0 + _ ≤ 8
  omega
theorem bq_callS (S : CallFix p m c cc nL s args bq_WA own) (hK : va_K g.1 vwCl (bq_tys g) s) (hz : z ≤ s.heap.size) (M : bq_MS own index y cc' maxL ret n) (hM : bq_M l y cc' maxL ret fr lo As g L E z v E') (hdg : decode cc pc = .ok (.invokestatic index, 3)) (st2 : List Value)
    (hst : st = As.reverse ++ rest) (hv : v.toList ++ rest = st2) (hn : As.length = n) (hsize : ls.size = nL) (hrest : (rest.map fun v => v.category).sum ≤ 8) (hR : fr + 1 ≤ R.frames ∧ 8 + (maxL + 11) + lo ≤ R.locals) (hcs : cells ≤ R.cells ∧ slots ≤ R.slots) (hW : bq_H g L E z s.heap H locs)
    (kk : ∀ (H1 : Heap) (locs1 : List Loc), bq_H g L E' z s.heap H1 locs1 → W p l e R s m args below meth c H1 locs1 cells slots Q (F0 m (pc + 3) ls st2)) : W p l e R s m args below meth c H locs cells slots Q (F0 m pc ls st) := by
  obtain ⟨hg, hd⟩ := M
  refine bq_run (a := As.toArray) hW.2.2.2 (va_runS (As := As) (rest := rest) S hM (va_cwS n S.2.2.2.2 hg rfl rfl rfl hd hR) ⟨bq_blind, fun U hU hw => ⟨rfl, bq_pre hK hz hW U hU hw⟩⟩ rfl hn hsize hst ?_ hdg ⟨hcs.1, hcs.2⟩) hv rfl kk
  show 2 * 0 + _ ≤ 8
  omega
theorem bq_post (hK : va_K g.1 vwCl (bq_tys g) s) (hz : z ≤ s.heap.size) (hW : bq_H g L E z s.heap H locs) (oc : Outcome) (hoc : oc = .returned v) : ∀ t : State, t.heap = H → s.WarmedH t.vm → bq_Q g L E z v args s oc t :=
  fun t ht hw => ⟨⟨hoc, bq_pre hK hz hW t ht hw⟩, hW.2.2.2.F ht⟩
theorem bq_reti (S : CallFix p m c cc nL s args bq_WA own) (hr : meth.sig.returnType = some .int) (hlocks : meth.locks = false) (hK : va_K g.1 vwCl (bq_tys g) s) (hz : z ≤ s.heap.size) (hdg : decode cc pc = .ok (.ireturn, 1)) {x : Int32} (hW : bq_H g L E z s.heap H locs) :
    W p l e R s m args below meth c H locs cells slots (MQ below (bq_Q g L E z (some (.int x))) args s cells slots (bq_A z)) (F0 m pc ls [.int x]) :=
  W.iret S.1 S.2.1 hr (bq_post hK hz hW _ rfl) hW.2.2.2.2.2 hdg hlocks
theorem bq_retz (S : CallFix p m c cc nL s args bq_WA own) (hr : meth.sig.returnType = some .boolean) (hlocks : meth.locks = false) (hK : va_K g.1 vwCl (bq_tys g) s) (hz : z ≤ s.heap.size) (hdg : decode cc pc = .ok (.ireturn, 1)) (x : Bool) {y : Int32} (hy : y = bq_b x) (hW : bq_H g L E z s.heap H locs) :
    W p l e R s m args below meth c H locs cells slots (MQ below (bq_Q g L E z (some (.int (bq_b x)))) args s cells slots (bq_A z)) (F0 m pc ls [.int y]) := by
  subst hy
  exact W.zret S.1 S.2.1 hr (bq_b01 x) (bq_post hK hz hW _ rfl) hW.2.2.2.2.2 hdg hlocks
theorem bq_retl (S : CallFix p m c cc nL s args bq_WA own) (hr : meth.sig.returnType = some .long) (hlocks : meth.locks = false) (hK : va_K g.1 vwCl (bq_tys g) s) (hz : z ≤ s.heap.size) (hdg : decode cc pc = .ok (.lreturn, 1)) {x : Int64} (hW : bq_H g L E z s.heap H locs) :
    W p l e R s m args below meth c H locs cells slots (MQ below (bq_Q g L E z (some (.long x))) args s cells slots (bq_A z)) (F0 m pc ls [.long x]) :=
  W.lret S.1 S.2.1 hr (bq_post hK hz hW _ rfl) hW.2.2.2.2.2 hdg hlocks
theorem bq_reta (S : CallFix p m c cc nL s args bq_WA own) {C : String} (hr : meth.sig.returnType = some (.object C)) (hlocks : meth.locks = false) (hK : va_K g.1 vwCl (bq_tys g) s) (hz : z ≤ s.heap.size) (hdg : decode cc pc = .ok (.areturn, 1)) {x : Nat} (hW : bq_H g L E z s.heap H locs) :
    W p l e R s m args below meth c H locs cells slots (MQ below (bq_Q g L E z (some (.ref x))) args s cells slots (bq_A z)) (F0 m pc ls [.ref x]) :=
  W.aret S.1 S.2.1 hr (Or.inl ⟨C, rfl⟩) (Or.inr ⟨x, rfl⟩) (bq_post hK hz hW _ rfl) hW.2.2.2.2.2 hdg hlocks
theorem bq_retn (S : CallFix p m c cc nL s args bq_WA own) {C : String} (hr : meth.sig.returnType = some (.object C)) (hlocks : meth.locks = false) (hK : va_K g.1 vwCl (bq_tys g) s) (hz : z ≤ s.heap.size) (hdg : decode cc pc = .ok (.areturn, 1)) (x : Option Nat) {w : Value} (hw : w = va_rf x) (hW : bq_H g L E z s.heap H locs) :
    W p l e R s m args below meth c H locs cells slots (MQ below (bq_Q g L E z (some (va_rf x))) args s cells slots (bq_A z)) (F0 m pc ls [w]) := by
  subst hw
  exact W.aret S.1 S.2.1 hr (Or.inl ⟨C, rfl⟩) (va_rf_or x) (bq_post hK hz hW _ rfl) hW.2.2.2.2.2 hdg hlocks
theorem bq_retv (S : CallFix p m c cc nL s args bq_WA own) (hr : meth.sig.returnType = none) (hlocks : meth.locks = false) (hK : va_K g.1 vwCl (bq_tys g) s) (hz : z ≤ s.heap.size) (hdg : decode cc pc = .ok (.return_, 1)) (hW : bq_H g L E z s.heap H locs) :
    W p l e R s m args below meth c H locs cells slots (MQ below (bq_Q g L E z none) args s cells slots (bq_A z)) (F0 m pc ls []) :=
  W.vret S.1 S.2.1 hr (bq_post hK hz hW _ rfl) hW.2.2.2.2.2 hdg hlocks
end BqCalls
end
section
/-! Exceptions that leave: what a throw needs of the start, and the contracts of calls that throw. -/
def bq_isB (w : Cond) : Bool := match w with
  | .castable _ _ => true
  | .declares _ => true
  | _ => false
def bq_strs : List (Nat × String) := [(54, "no room for such a child"), (78, "the catalog is full"), (180, "there is no such value of a node"), (212, "there is no such count"), (215, "no state is saved"), (249, "there is no such node"), (252, "an argument is out of range")]
def bq_T (z : Nat) (U : State) (H : Heap) : Prop :=
  vx_Zq Bundle.tN "UNASSIGNED_STACK" Bundle.steD (bq_A z) U H ∧ vx_Zq Bundle.tN "SUPPRESSED_SENTINEL" Bundle.listD (bq_A z) U H ∧ (∀ q ∈ bq_strs, ∃ sa : Nat, vk_R RX6 q.1 q.2 sa U) ∧ ∀ w ∈ lw_tbl, bq_isB w = true → va_Nw w U
theorem bq_T.kept {z : Nat} {s U : State} {H : Heap} {locs : List Loc} (h : bq_T z s s.heap) (hS : va_S (bq_A z) s.heap H locs) (hU : U.heap = H) (hw : s.WarmedH U.vm) : bq_T z U U.heap := by
  obtain ⟨h1, h2, h3, h4⟩ := h
  refine ⟨?_, ?_, fun q hq => ?_, fun w hm hb => ?_⟩
  · rw [hU]; exact vx_Zq.moved hw.alike (h1.kept hS.2.1)
  · rw [hU]; exact vx_Zq.moved hw.alike (h2.kept hS.2.1)
  · obtain ⟨sa, hs⟩ := h3 q hq
    exact ⟨sa, vk_R.warm hw hs⟩
  · have h5 := h4 w hm hb
    cases w <;> first | exact va_Nw.warmC hw h5 | exact va_Nw.warmD hw h5 | exact absurd hb (by simp [bq_isB])
def bq_UX (g : bq_G) (L : List Nat) (E : bq_E) (z : Nat) (U : State) : Prop := bq_U g L E z U ∧ bq_T z U U.heap
def bq_MX (l : Launch) (y : MethodName) (cc : ByteArray) (maxL : Nat) (ret : Option FieldType) (fr lo : Nat) (As : List Value) (g : bq_G) (L : List Nat) (E : bq_E) (z : Nat) (X : String) (E' : bq_E) : Prop :=
  vx_Met l y (bq_ws y cc maxL ret) { frames := fr, cells := 1, slots := 6, locals := lo } (va_Pc As (bq_UX g L E z)) (fun _ _ _ _ => False) (bq_X g L E' z X) 1 6 (bq_A z)
theorem bq_blindX {As : List Value} {g : bq_G} {L : List Nat} {E : bq_E} {z : Nat} : FrameBlind (va_Pc As (bq_UX g L E z)) := by
  intro a U f mk q
  obtain ⟨rfl, ⟨q1, q2, q3, q4, q5⟩, t1, t2, t3, t4⟩ := q
  refine ⟨rfl, ⟨q1, q2, q3, q4, va_K.moved (u := U) (U := U.calling f mk As.toArray) (Vm.Alike.refl U.vm) q5⟩, vx_Zq.moved (u := U) (U := U.calling f mk As.toArray) (Vm.Alike.refl U.vm) t1, vx_Zq.moved (u := U) (U := U.calling f mk As.toArray) (Vm.Alike.refl U.vm) t2, fun q hq => ?_, fun w hm hb => ?_⟩
  · obtain ⟨sa, hs⟩ := t3 q hq
    exact ⟨sa, vk_R.same (u := U) (U := U.calling f mk As.toArray) rfl hs⟩
  · have h5 := t4 w hm hb
    refine va_Nw.same (u := U) (U := U.calling f mk As.toArray) ?_ rfl h5
    cases w <;> first | rfl | exact absurd hb (by simp [bq_isB])
theorem bq_enterX {l : Launch} {y : MethodName} {cc : ByteArray} {maxL : Nat} {ret : Option FieldType} {fr lo : Nat} {As : List Value} {g : bq_G} {L : List Nat} {E : bq_E} {z : Nat} {X : String} {E' : bq_E} (hy : plainName y.cls = true) (hn : (lg_sl As).length ≤ maxL)
    (body : ∀ (p : Program) (e : Env) (s : State) (m : MethodId) (args : Array Value) (below : List Frame) (meth : Method) (c : Code), CallFix p m c cc maxL s args bq_WA y.cls → (∀ x ∈ c.exceptionTable.toList, False) → meth.locks = false → va_K g.1 vwCl (bq_tys g) s → z ≤ s.heap.size → bq_T z s s.heap → bq_H g L E z s.heap s.heap [] → ∀ ls : Array Slot, lv_has ls maxL (lv_args 0 As) →
      W p l e { frames := fr, cells := 1, slots := 6, locals := lo } s m args below meth c s.heap [] 0 0 (vx_MQ below (fun _ _ _ _ => False) (bq_X g L E' z X) args s 1 6 (bq_A z)) (F0 m 0 ls [])) :
    bq_MX l y cc maxL ret fr lo As g L E z X E' := by
  refine vx_ofW (cc := cc) (maxL := maxL) (ret := ret) (ws' := bq_WA) hy rfl ?_
  intro p e s m args below meth c s₁ B hml htab hv
  obtain ⟨rfl, ⟨hz, hP, hD, hO, hK⟩, hT⟩ := hv
  have hts := bq_hts (atoms_spec (ws := bq_ws y cc maxL ret) B.pre)
  have hl := lv_entry As (n := maxL) hn
  rw [lg_entry_eq]
  exact body p e s m As.toArray below meth c ⟨B.exec, B.bytes, hml, findClass_of_methodNamed B.named, hts⟩ htab B.notSynchronized hK hz hT ⟨hP, hD, hO, va_S.rf⟩ _ hl
section BqX
variable {p : Program} {l : Launch} {e : Env} {R : Room} {s : State} {m : MethodId} {args : Array Value} {below : List Frame} {meth : Method} {c : Code} {H : Heap} {locs : List Loc} {cells slots : Nat} {Q : State → Prop}
variable {cc cc' : ByteArray} {nL pc maxL fr lo n : Nat} {own : String} {ls : Array Slot} {st rest As : List Value} {g : bq_G} {L : List Nat} {E E' : bq_E} {z : Nat} {b ci index : Nat} {y : MethodName} {ret : Option FieldType} {X : String}
theorem bq_callVXk (S : CallFix p m c cc nL s args bq_WA own) (hK : va_K g.1 vwCl (bq_tys g) s) (hz : z ≤ s.heap.size) (hT : bq_T z s s.heap) (M : bq_MV own index ci y cc' maxL ret n) (hM : bq_MX l y cc' maxL ret fr lo (.ref b :: As) g L E z X E') (hcl : bq_cls E b = ci) (hdg : decode cc pc = .ok (.invokevirtual index, 3))
    (hst : st = As.reverse ++ .ref b :: rest) (hn : As.length = n) (hsize : ls.size = nL) (hrest : (rest.map fun v => v.category).sum ≤ 8) (hR : fr + 1 ≤ R.frames ∧ 8 + (maxL + 11) + lo ≤ R.locals) (hcs : cells + 1 ≤ R.cells ∧ slots + 6 ≤ R.slots) (hW : bq_H g L E z s.heap H locs)
    (kx : ∀ (H1 : Heap) (locs1 : List Loc) (q9 : Addr) (ce : Cell), bq_H g L E' z s.heap H1 locs1 → H1[q9]? = some ce → ce.vm = .none → s.vm.findClass X = some ce.cls → vx_W p l e R s m args below meth c H1 locs1 (cells + 1) (slots + 6) Q (F0 m pc ls rest) q9) : W p l e R s m args below meth c H locs cells slots Q (F0 m pc ls st) := by
  obtain ⟨C, T, N, hc, hg, hd⟩ := M
  have hci : ci < 99 := by
    have := (List.getElem?_eq_some_iff.mp hc).1
    have h8 : vwCl.length = 8 := rfl
    omega
  obtain ⟨fs, hE⟩ := bq_clsE hcl hci
  obtain ⟨q0, hq⟩ := bq_at hW.2.2.1 hE (fun h => by have := congrArg (fun e : va_E => match e with | .inr (c, _) => c | .inl _ => 100) h; dsimp only at this; omega)
  have hS := hW.2.2.2
  have hr := vx_runV (Qc := fun _ _ _ _ => False) (XC := bq_X g L E' z X) (free := bq_A z) (H := H) (below := below) (meth := meth) (g := F0 m pc ls st) (e := e) (locs := locs) (As := As) (b := b) (rest := rest) S hM (cwV n S.2.2.2.2 hg rfl rfl rfl hd hR) ⟨bq_blindX, va_recv hK hW.1 hc hq, fun U hU hw => ⟨rfl, bq_pre hK hz hW U hU hw, hT.kept hS hU hw⟩⟩ rfl hn hsize hst (by show 2 * 0 + _ ≤ 8; omega) hdg hcs
  intro T0 hT0 X0
  rcases hr T0 hT0 X0 with ⟨v, st₀, t, T', L', h0, X', hL, e1, e2, hq, hst⟩ | ⟨q, st₀, t, T', L', Ex, ce, h0, X', hL, e1, e2, ⟨rfl, ⟨u1, u2, u3, u4, u5⟩, f1, f2⟩, hce, hcv, hcl, hst⟩
  · exact hq.elim
  · rw [h0] at f1 f2
    have hW1 : bq_H g L E' z s.heap T'.heap (locs ++ L') := by
      refine ⟨by rw [e1]; exact u2, u3, u4, Nat.le_trans hS.1 (by rw [e1]; exact f1), fun q h1 h2 => ?_, fun q hq => ?_⟩
      · rw [e1, f2 q (Nat.lt_of_lt_of_le h1 hS.1) h2]; exact hS.2.1 q h1 h2
      · rcases List.mem_append.mp hq with h | h
        · exact hS.2.2 q h
        · exact hL q h
    obtain ⟨t2, a1, b1⟩ := kx T'.heap (locs ++ L') q ce hW1 (by rw [e1]; exact hce) hcv hcl T' rfl X'
    exact ⟨t2, hst.trans a1, b1⟩
theorem bq_callVX (S : CallFix p m c cc nL s args bq_WA own) (htab : ∀ x ∈ c.exceptionTable.toList, False) (hlocks : meth.locks = false) (hK : va_K g.1 vwCl (bq_tys g) s) (hz : z ≤ s.heap.size) (hT : bq_T z s s.heap) (M : bq_MV own index ci y cc' maxL ret n) (hM : bq_MX l y cc' maxL ret fr lo (.ref b :: As) g L E z X E') (hcl : bq_cls E b = ci) (hdg : decode cc pc = .ok (.invokevirtual index, 3))
    (hst : st = As.reverse ++ .ref b :: rest) (hn : As.length = n) (hsize : ls.size = nL) (hrest : (rest.map fun v => v.category).sum ≤ 8) (hR : fr + 1 ≤ R.frames ∧ 8 + (maxL + 11) + lo ≤ R.locals) (hcs : 1 ≤ R.cells ∧ 6 ≤ R.slots) (hW : bq_H g L E z s.heap H locs) {Qf : Array Value → State → Outcome → State → Prop} :
    W p l e R s m args below meth c H locs 0 0 (vx_MQ below Qf (bq_X g L E' z X) args s 1 6 (bq_A z)) (F0 m pc ls st) := by
  refine bq_callVXk S hK hz hT M hM hcl hdg hst hn hsize hrest hR ⟨hcs.1, hcs.2⟩ hW (fun H1 locs1 q9 ce hW1 h1 h2 h3 => ?_)
  refine vx_out (fun x hx => (htab x hx).elim) hlocks h1 h2 h3 (fun t ht ha => ⟨rfl, ⟨?_, ?_, hW1.2.1, hW1.2.2.1, va_K.moved ha hK⟩, hW1.2.2.2.F ht⟩) hW1.2.2.2.2.2 (Nat.le_refl _) (Nat.le_refl _)
  · rw [ht]; exact Nat.le_trans hz hW1.2.2.2.1
  · rw [ht]; exact hW1.1
theorem bq_throw (S : CallFix p m c cc nL s args bq_WA RX6) (htab : ∀ x ∈ c.exceptionTable.toList, False) (hlocks : meth.locks = false) (hK : va_K g.1 vwCl (bq_tys g) s) (hz : z ≤ s.heap.size) (hT : bq_T z s s.heap) (hl : l.stackTraces = false) {cls text : String} {names : List String} {ik is ic : Nat}
    (hcls : Bundle.fit cls = true) (hnames : ∀ n ∈ names, Bundle.fit n = true) (hk : Cond.classLink RX6 ik cls ∈ bq_WA) (hini : Cond.initialized cls ∈ bq_WA) (hstr : (is, text) ∈ bq_strs)
    (hat : (vx_atS RX6 ic cls names).all (fun w => decide (w ∈ lw_tbl) && (goodWord w || bq_isB w)) = true) (hgood : ((Cond.classLink RX6 ik cls :: Cond.initialized cls :: vx_atS RX6 ic cls names)).all vx_ot = true)
    (d0 : decode cc pc = .ok (.new ik, 3)) (d3 : decode cc (pc + 3) = .ok (.dup, 1)) (d4 : decode cc (pc + 4) = .ok (.ldc is, 2)) (d6 : decode cc (pc + 6) = .ok (.invokespecial ic, 3)) (d9 : decode cc (pc + 9) = .ok (.athrow, 1))
    (hsize : ls.size = nL) (hRf : names.length + 3 < R.frames) (hRl : (rest.map fun v => v.category).sum + (13 * (names.length + 1) + 43) ≤ R.locals) (hcs : 1 ≤ R.cells ∧ 6 ≤ R.slots) (hW : bq_H g L E z s.heap H locs) {Qf : Array Value → State → Outcome → State → Prop} :
    W p l e R s m args below meth c H locs 0 0 (vx_MQ below Qf (bq_X g L E z cls) args s 1 6 (bq_A z)) (F0 m pc ls rest) := by
  obtain ⟨hx, hb, hml, hown, hts⟩ := S
  obtain ⟨h1, h2, h3, h4⟩ := hT
  obtain ⟨sa, hsa⟩ := h3 _ hstr
  have hat' : ∀ w ∈ vx_atS RX6 ic cls names, w.before args s = true := by
    intro w hw
    have q := List.all_eq_true.mp hat w hw
    simp only [Bool.and_eq_true, decide_eq_true_eq, Bool.or_eq_true] at q
    rcases q.2 with h | h
    · exact hts w (List.mem_filter.mpr ⟨q.1, h⟩)
    · refine va_Nw.use ?_ (h4 w q.1 h)
      cases w <;> first | rfl | exact absurd h (by simp [bq_isB])
  refine vx_throwS (A := bq_A z) hx hb hl hown hcls hnames (hts _ hk) (hts _ hini) hsa hat' (fun w hw => List.all_eq_true.mp hgood w hw) h1 h2 hW.2.2.2 (hsize.trans hml.symm) d0 d3 d4 d6 d9 (fun x hx => (htab x hx).elim) hRf hRl hcs.1 hcs.2 hlocks ?_ hW.2.2.2.2.2 (Nat.le_refl _) (Nat.le_refl _)
  intro t ha hsz hq
  refine ⟨rfl, ⟨Nat.le_trans hz (Nat.le_trans hW.2.2.2.1 hsz), hW.1.kept (fun k q hk => hq q.1 (hW.1 k q hk).lt), hW.2.1, hW.2.2.1, va_K.moved ha hK⟩, Nat.le_trans hW.2.2.2.1 hsz, fun q h5 h6 => ?_⟩
  rw [hq q (Nat.lt_of_lt_of_le h5 hW.2.2.2.1)]
  exact hW.2.2.2.2.1 q h5 h6
end BqX
end
section
theorem zz_look : (1 : Nat) = 1 := rfl
end
