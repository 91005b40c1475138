-- ===== PART A: goes FIRST, ahead of the names: the tables' words, and 'selects' of the private methods out of them =====
/-- a private method of a class that the tables say can be made, by its rows of tables_1 -/
def lw_okq (q : MethodName × Nat) : Prop := (q.1.cls ≠ "java/lang/invoke/MethodHandle" ∧ q.1.cls ≠ "java/lang/invoke/VarHandle") ∧ Cond.instantiable q.1.cls q.2 ∈ tables_1 ∧ Cond.privateMethod q.1 ∈ tables_1 ∧ Cond.instanceMethod q.1 ∈ tables_1
theorem lw_p0 : lw_okq (⟨"ShelfNights", "error", "(I)I"⟩, 14) := ⟨⟨by decide +kernel, by decide +kernel⟩, List.mem_of_getElem? (i := 17) (by decide +kernel), List.mem_of_getElem? (i := 262) (by decide +kernel), List.mem_of_getElem? (i := 263) (by decide +kernel)⟩
theorem lw_p1 : lw_okq (⟨"ShelfNights", "isPageOfBook", "(II)Z"⟩, 14) := ⟨⟨by decide +kernel, by decide +kernel⟩, List.mem_of_getElem? (i := 17) (by decide +kernel), List.mem_of_getElem? (i := 275) (by decide +kernel), List.mem_of_getElem? (i := 276) (by decide +kernel)⟩
theorem lw_p2 : lw_okq (⟨"ShelfNights", "isBook", "(I)Z"⟩, 14) := ⟨⟨by decide +kernel, by decide +kernel⟩, List.mem_of_getElem? (i := 17) (by decide +kernel), List.mem_of_getElem? (i := 279) (by decide +kernel), List.mem_of_getElem? (i := 280) (by decide +kernel)⟩
theorem lw_p3 : lw_okq (⟨"ShelfNights", "isPlace", "(I)Z"⟩, 14) := ⟨⟨by decide +kernel, by decide +kernel⟩, List.mem_of_getElem? (i := 17) (by decide +kernel), List.mem_of_getElem? (i := 376) (by decide +kernel), List.mem_of_getElem? (i := 377) (by decide +kernel)⟩
theorem lw_p4 : lw_okq (⟨"ShelfNights", "thinkNights", "(II)V"⟩, 14) := ⟨⟨by decide +kernel, by decide +kernel⟩, List.mem_of_getElem? (i := 17) (by decide +kernel), List.mem_of_getElem? (i := 523) (by decide +kernel), List.mem_of_getElem? (i := 524) (by decide +kernel)⟩
theorem lw_p5 : lw_okq (⟨"ShelfNights", "isRowQuestion", "(I)Z"⟩, 14) := ⟨⟨by decide +kernel, by decide +kernel⟩, List.mem_of_getElem? (i := 17) (by decide +kernel), List.mem_of_getElem? (i := 551) (by decide +kernel), List.mem_of_getElem? (i := 552) (by decide +kernel)⟩
theorem lw_p6 : lw_okq (⟨"ShelfNights", "findBestRow", "(I)I"⟩, 14) := ⟨⟨by decide +kernel, by decide +kernel⟩, List.mem_of_getElem? (i := 17) (by decide +kernel), List.mem_of_getElem? (i := 555) (by decide +kernel), List.mem_of_getElem? (i := 556) (by decide +kernel)⟩
theorem lw_p7 : lw_okq (⟨"ShelfNights", "beginRows", "()V"⟩, 14) := ⟨⟨by decide +kernel, by decide +kernel⟩, List.mem_of_getElem? (i := 17) (by decide +kernel), List.mem_of_getElem? (i := 559) (by decide +kernel), List.mem_of_getElem? (i := 560) (by decide +kernel)⟩
theorem lw_p8 : lw_okq (⟨"ShelfNights", "thinkRow", "(I)V"⟩, 14) := ⟨⟨by decide +kernel, by decide +kernel⟩, List.mem_of_getElem? (i := 17) (by decide +kernel), List.mem_of_getElem? (i := 563) (by decide +kernel), List.mem_of_getElem? (i := 564) (by decide +kernel)⟩
theorem lw_p9 : lw_okq (⟨"ShelfNights", "nextRow", "()Z"⟩, 14) := ⟨⟨by decide +kernel, by decide +kernel⟩, List.mem_of_getElem? (i := 17) (by decide +kernel), List.mem_of_getElem? (i := 568) (by decide +kernel), List.mem_of_getElem? (i := 569) (by decide +kernel)⟩
theorem lw_p10 : lw_okq (⟨"ShelfNights", "swapInRow", "(II)V"⟩, 14) := ⟨⟨by decide +kernel, by decide +kernel⟩, List.mem_of_getElem? (i := 17) (by decide +kernel), List.mem_of_getElem? (i := 572) (by decide +kernel), List.mem_of_getElem? (i := 573) (by decide +kernel)⟩
theorem lw_p11 : lw_okq (⟨"ShelfNights", "isMissing", "(I)Z"⟩, 14) := ⟨⟨by decide +kernel, by decide +kernel⟩, List.mem_of_getElem? (i := 17) (by decide +kernel), List.mem_of_getElem? (i := 587) (by decide +kernel), List.mem_of_getElem? (i := 588) (by decide +kernel)⟩
theorem lw_p12 : lw_okq (⟨"ShelfNights", "findRowsBy", "(III)I"⟩, 14) := ⟨⟨by decide +kernel, by decide +kernel⟩, List.mem_of_getElem? (i := 17) (by decide +kernel), List.mem_of_getElem? (i := 591) (by decide +kernel), List.mem_of_getElem? (i := 592) (by decide +kernel)⟩
theorem lw_p13 : lw_okq (⟨"ShelfNights", "isAsOnSheet", "(II)Z"⟩, 14) := ⟨⟨by decide +kernel, by decide +kernel⟩, List.mem_of_getElem? (i := 17) (by decide +kernel), List.mem_of_getElem? (i := 595) (by decide +kernel), List.mem_of_getElem? (i := 596) (by decide +kernel)⟩
theorem lw_p14 : lw_okq (⟨"ShelfNights", "standThere", "(III)Z"⟩, 14) := ⟨⟨by decide +kernel, by decide +kernel⟩, List.mem_of_getElem? (i := 17) (by decide +kernel), List.mem_of_getElem? (i := 722) (by decide +kernel), List.mem_of_getElem? (i := 723) (by decide +kernel)⟩
theorem lw_p15 : lw_okq (⟨"ShelfNightsModel", "errs", "(I)I"⟩, 27) := ⟨⟨by decide +kernel, by decide +kernel⟩, List.mem_of_getElem? (i := 769) (by decide +kernel), List.mem_of_getElem? (i := 869) (by decide +kernel), List.mem_of_getElem? (i := 870) (by decide +kernel)⟩
def lw_privs_1 : List (MethodName × Nat) := [(⟨"ShelfNights", "error", "(I)I"⟩, 14), (⟨"ShelfNights", "isPageOfBook", "(II)Z"⟩, 14), (⟨"ShelfNights", "isBook", "(I)Z"⟩, 14), (⟨"ShelfNights", "isPlace", "(I)Z"⟩, 14), (⟨"ShelfNights", "thinkNights", "(II)V"⟩, 14), (⟨"ShelfNights", "isRowQuestion", "(I)Z"⟩, 14), (⟨"ShelfNights", "findBestRow", "(I)I"⟩, 14), (⟨"ShelfNights", "beginRows", "()V"⟩, 14), (⟨"ShelfNights", "thinkRow", "(I)V"⟩, 14), (⟨"ShelfNights", "nextRow", "()Z"⟩, 14), (⟨"ShelfNights", "swapInRow", "(II)V"⟩, 14), (⟨"ShelfNights", "isMissing", "(I)Z"⟩, 14), (⟨"ShelfNights", "findRowsBy", "(III)I"⟩, 14), (⟨"ShelfNights", "isAsOnSheet", "(II)Z"⟩, 14), (⟨"ShelfNights", "standThere", "(III)Z"⟩, 14), (⟨"ShelfNightsModel", "errs", "(I)I"⟩, 27)]
theorem lw_r1 : ∀ q ∈ lw_privs_1, lw_okq q := List.forall_mem_cons.mpr ⟨lw_p0, List.forall_mem_cons.mpr ⟨lw_p1, List.forall_mem_cons.mpr ⟨lw_p2, List.forall_mem_cons.mpr ⟨lw_p3, List.forall_mem_cons.mpr ⟨lw_p4, List.forall_mem_cons.mpr ⟨lw_p5, List.forall_mem_cons.mpr ⟨lw_p6, List.forall_mem_cons.mpr ⟨lw_p7, List.forall_mem_cons.mpr ⟨lw_p8, List.forall_mem_cons.mpr ⟨lw_p9, List.forall_mem_cons.mpr ⟨lw_p10, List.forall_mem_cons.mpr ⟨lw_p11, List.forall_mem_cons.mpr ⟨lw_p12, List.forall_mem_cons.mpr ⟨lw_p13, List.forall_mem_cons.mpr ⟨lw_p14, List.forall_mem_cons.mpr ⟨lw_p15, fun _ h => absurd h List.not_mem_nil⟩⟩⟩⟩⟩⟩⟩⟩⟩⟩⟩⟩⟩⟩⟩⟩
theorem lw_p16 : lw_okq (⟨"ShelfNightsModel", "isBook", "(I)Z"⟩, 27) := ⟨⟨by decide +kernel, by decide +kernel⟩, List.mem_of_getElem? (i := 769) (by decide +kernel), List.mem_of_getElem? (i := 882) (by decide +kernel), List.mem_of_getElem? (i := 883) (by decide +kernel)⟩
theorem lw_p17 : lw_okq (⟨"ShelfNightsModel", "becomes", "(II)I"⟩, 27) := ⟨⟨by decide +kernel, by decide +kernel⟩, List.mem_of_getElem? (i := 769) (by decide +kernel), List.mem_of_getElem? (i := 894) (by decide +kernel), List.mem_of_getElem? (i := 895) (by decide +kernel)⟩
theorem lw_p18 : lw_okq (⟨"ShelfNightsModel", "pageAt", "(II)I"⟩, 27) := ⟨⟨by decide +kernel, by decide +kernel⟩, List.mem_of_getElem? (i := 769) (by decide +kernel), List.mem_of_getElem? (i := 902) (by decide +kernel), List.mem_of_getElem? (i := 903) (by decide +kernel)⟩
theorem lw_p19 : lw_okq (⟨"ShelfNightsModel", "its", "(II)I"⟩, 27) := ⟨⟨by decide +kernel, by decide +kernel⟩, List.mem_of_getElem? (i := 769) (by decide +kernel), List.mem_of_getElem? (i := 911) (by decide +kernel), List.mem_of_getElem? (i := 912) (by decide +kernel)⟩
theorem lw_p20 : lw_okq (⟨"ShelfNightsModel", "placeOf", "(I)I"⟩, 27) := ⟨⟨by decide +kernel, by decide +kernel⟩, List.mem_of_getElem? (i := 769) (by decide +kernel), List.mem_of_getElem? (i := 915) (by decide +kernel), List.mem_of_getElem? (i := 916) (by decide +kernel)⟩
theorem lw_p21 : lw_okq (⟨"ShelfNightsModel", "senseOf", "(I)I"⟩, 27) := ⟨⟨by decide +kernel, by decide +kernel⟩, List.mem_of_getElem? (i := 769) (by decide +kernel), List.mem_of_getElem? (i := 919) (by decide +kernel), List.mem_of_getElem? (i := 920) (by decide +kernel)⟩
theorem lw_p22 : lw_okq (⟨"ShelfNightsModel", "senses", "(III)I"⟩, 27) := ⟨⟨by decide +kernel, by decide +kernel⟩, List.mem_of_getElem? (i := 769) (by decide +kernel), List.mem_of_getElem? (i := 923) (by decide +kernel), List.mem_of_getElem? (i := 924) (by decide +kernel)⟩
theorem lw_p23 : lw_okq (⟨"ShelfNightsModel", "worked", "(IIII)I"⟩, 27) := ⟨⟨by decide +kernel, by decide +kernel⟩, List.mem_of_getElem? (i := 769) (by decide +kernel), List.mem_of_getElem? (i := 927) (by decide +kernel), List.mem_of_getElem? (i := 928) (by decide +kernel)⟩
theorem lw_p24 : lw_okq (⟨"ShelfNightsModel", "readsText", "(IIIIII)I"⟩, 27) := ⟨⟨by decide +kernel, by decide +kernel⟩, List.mem_of_getElem? (i := 769) (by decide +kernel), List.mem_of_getElem? (i := 931) (by decide +kernel), List.mem_of_getElem? (i := 932) (by decide +kernel)⟩
theorem lw_p25 : lw_okq (⟨"ShelfNightsModel", "any", "()I"⟩, 27) := ⟨⟨by decide +kernel, by decide +kernel⟩, List.mem_of_getElem? (i := 769) (by decide +kernel), List.mem_of_getElem? (i := 935) (by decide +kernel), List.mem_of_getElem? (i := 936) (by decide +kernel)⟩
theorem lw_p26 : lw_okq (⟨"ShelfNightsModel", "both", "()I"⟩, 27) := ⟨⟨by decide +kernel, by decide +kernel⟩, List.mem_of_getElem? (i := 769) (by decide +kernel), List.mem_of_getElem? (i := 939) (by decide +kernel), List.mem_of_getElem? (i := 940) (by decide +kernel)⟩
theorem lw_p27 : lw_okq (⟨"ShelfNightsModel", "test", "()I"⟩, 27) := ⟨⟨by decide +kernel, by decide +kernel⟩, List.mem_of_getElem? (i := 769) (by decide +kernel), List.mem_of_getElem? (i := 943) (by decide +kernel), List.mem_of_getElem? (i := 944) (by decide +kernel)⟩
theorem lw_p28 : lw_okq (⟨"ShelfNightsModel", "sum", "()I"⟩, 27) := ⟨⟨by decide +kernel, by decide +kernel⟩, List.mem_of_getElem? (i := 769) (by decide +kernel), List.mem_of_getElem? (i := 947) (by decide +kernel), List.mem_of_getElem? (i := 948) (by decide +kernel)⟩
theorem lw_p29 : lw_okq (⟨"ShelfNightsModel", "product", "()I"⟩, 27) := ⟨⟨by decide +kernel, by decide +kernel⟩, List.mem_of_getElem? (i := 769) (by decide +kernel), List.mem_of_getElem? (i := 951) (by decide +kernel), List.mem_of_getElem? (i := 952) (by decide +kernel)⟩
theorem lw_p30 : lw_okq (⟨"ShelfNightsModel", "single", "()I"⟩, 27) := ⟨⟨by decide +kernel, by decide +kernel⟩, List.mem_of_getElem? (i := 769) (by decide +kernel), List.mem_of_getElem? (i := 955) (by decide +kernel), List.mem_of_getElem? (i := 956) (by decide +kernel)⟩
theorem lw_p31 : lw_okq (⟨"ShelfNightsModel", "here", "()I"⟩, 27) := ⟨⟨by decide +kernel, by decide +kernel⟩, List.mem_of_getElem? (i := 769) (by decide +kernel), List.mem_of_getElem? (i := 959) (by decide +kernel), List.mem_of_getElem? (i := 960) (by decide +kernel)⟩
def lw_privs_2 : List (MethodName × Nat) := [(⟨"ShelfNightsModel", "isBook", "(I)Z"⟩, 27), (⟨"ShelfNightsModel", "becomes", "(II)I"⟩, 27), (⟨"ShelfNightsModel", "pageAt", "(II)I"⟩, 27), (⟨"ShelfNightsModel", "its", "(II)I"⟩, 27), (⟨"ShelfNightsModel", "placeOf", "(I)I"⟩, 27), (⟨"ShelfNightsModel", "senseOf", "(I)I"⟩, 27), (⟨"ShelfNightsModel", "senses", "(III)I"⟩, 27), (⟨"ShelfNightsModel", "worked", "(IIII)I"⟩, 27), (⟨"ShelfNightsModel", "readsText", "(IIIIII)I"⟩, 27), (⟨"ShelfNightsModel", "any", "()I"⟩, 27), (⟨"ShelfNightsModel", "both", "()I"⟩, 27), (⟨"ShelfNightsModel", "test", "()I"⟩, 27), (⟨"ShelfNightsModel", "sum", "()I"⟩, 27), (⟨"ShelfNightsModel", "product", "()I"⟩, 27), (⟨"ShelfNightsModel", "single", "()I"⟩, 27), (⟨"ShelfNightsModel", "here", "()I"⟩, 27)]
theorem lw_r2 : ∀ q ∈ lw_privs_2, lw_okq q := List.forall_mem_cons.mpr ⟨lw_p16, List.forall_mem_cons.mpr ⟨lw_p17, List.forall_mem_cons.mpr ⟨lw_p18, List.forall_mem_cons.mpr ⟨lw_p19, List.forall_mem_cons.mpr ⟨lw_p20, List.forall_mem_cons.mpr ⟨lw_p21, List.forall_mem_cons.mpr ⟨lw_p22, List.forall_mem_cons.mpr ⟨lw_p23, List.forall_mem_cons.mpr ⟨lw_p24, List.forall_mem_cons.mpr ⟨lw_p25, List.forall_mem_cons.mpr ⟨lw_p26, List.forall_mem_cons.mpr ⟨lw_p27, List.forall_mem_cons.mpr ⟨lw_p28, List.forall_mem_cons.mpr ⟨lw_p29, List.forall_mem_cons.mpr ⟨lw_p30, List.forall_mem_cons.mpr ⟨lw_p31, fun _ h => absurd h List.not_mem_nil⟩⟩⟩⟩⟩⟩⟩⟩⟩⟩⟩⟩⟩⟩⟩⟩
theorem lw_p32 : lw_okq (⟨"ShelfNightsModel", "name", "(I)I"⟩, 27) := ⟨⟨by decide +kernel, by decide +kernel⟩, List.mem_of_getElem? (i := 769) (by decide +kernel), List.mem_of_getElem? (i := 968) (by decide +kernel), List.mem_of_getElem? (i := 969) (by decide +kernel)⟩
theorem lw_p33 : lw_okq (⟨"ShelfNightsModel", "takes", "(I)Z"⟩, 27) := ⟨⟨by decide +kernel, by decide +kernel⟩, List.mem_of_getElem? (i := 769) (by decide +kernel), List.mem_of_getElem? (i := 972) (by decide +kernel), List.mem_of_getElem? (i := 973) (by decide +kernel)⟩
theorem lw_p34 : lw_okq (⟨"ShelfNightsModel", "gives", "(II)I"⟩, 27) := ⟨⟨by decide +kernel, by decide +kernel⟩, List.mem_of_getElem? (i := 769) (by decide +kernel), List.mem_of_getElem? (i := 976) (by decide +kernel), List.mem_of_getElem? (i := 977) (by decide +kernel)⟩
theorem lw_p35 : lw_okq (⟨"ShelfNightsModel", "goes", "(II)I"⟩, 27) := ⟨⟨by decide +kernel, by decide +kernel⟩, List.mem_of_getElem? (i := 769) (by decide +kernel), List.mem_of_getElem? (i := 1003) (by decide +kernel), List.mem_of_getElem? (i := 1004) (by decide +kernel)⟩
theorem lw_p36 : lw_okq (⟨"ShelfNightsModel", "merged", "(III)I"⟩, 27) := ⟨⟨by decide +kernel, by decide +kernel⟩, List.mem_of_getElem? (i := 769) (by decide +kernel), List.mem_of_getElem? (i := 1025) (by decide +kernel), List.mem_of_getElem? (i := 1026) (by decide +kernel)⟩
theorem lw_p37 : lw_okq (⟨"ShelfNightsModel", "go", "(II)V"⟩, 27) := ⟨⟨by decide +kernel, by decide +kernel⟩, List.mem_of_getElem? (i := 769) (by decide +kernel), List.mem_of_getElem? (i := 1035) (by decide +kernel), List.mem_of_getElem? (i := 1036) (by decide +kernel)⟩
theorem lw_p38 : lw_okq (⟨"ShelfNightsModel", "night", "(I)V"⟩, 27) := ⟨⟨by decide +kernel, by decide +kernel⟩, List.mem_of_getElem? (i := 769) (by decide +kernel), List.mem_of_getElem? (i := 1039) (by decide +kernel), List.mem_of_getElem? (i := 1040) (by decide +kernel)⟩
theorem lw_p39 : lw_okq (⟨"ShelfNightsModel", "given", "(III)I"⟩, 27) := ⟨⟨by decide +kernel, by decide +kernel⟩, List.mem_of_getElem? (i := 769) (by decide +kernel), List.mem_of_getElem? (i := 1043) (by decide +kernel), List.mem_of_getElem? (i := 1044) (by decide +kernel)⟩
theorem lw_p40 : lw_okq (⟨"ShelfNightsModel", "takes0", "(III)I"⟩, 27) := ⟨⟨by decide +kernel, by decide +kernel⟩, List.mem_of_getElem? (i := 769) (by decide +kernel), List.mem_of_getElem? (i := 1047) (by decide +kernel), List.mem_of_getElem? (i := 1048) (by decide +kernel)⟩
theorem lw_p41 : lw_okq (⟨"ShelfNightsModel", "poems", "(III)I"⟩, 27) := ⟨⟨by decide +kernel, by decide +kernel⟩, List.mem_of_getElem? (i := 769) (by decide +kernel), List.mem_of_getElem? (i := 1051) (by decide +kernel), List.mem_of_getElem? (i := 1052) (by decide +kernel)⟩
theorem lw_p42 : lw_okq (⟨"ShelfNightsModel", "allSense", "()I"⟩, 27) := ⟨⟨by decide +kernel, by decide +kernel⟩, List.mem_of_getElem? (i := 769) (by decide +kernel), List.mem_of_getElem? (i := 1055) (by decide +kernel), List.mem_of_getElem? (i := 1056) (by decide +kernel)⟩
theorem lw_p43 : lw_okq (⟨"ShelfNightsModel", "draw", "()I"⟩, 27) := ⟨⟨by decide +kernel, by decide +kernel⟩, List.mem_of_getElem? (i := 769) (by decide +kernel), List.mem_of_getElem? (i := 1064) (by decide +kernel), List.mem_of_getElem? (i := 1065) (by decide +kernel)⟩
theorem lw_p44 : lw_okq (⟨"ShelfNightsModel", "laysAside", "()V"⟩, 27) := ⟨⟨by decide +kernel, by decide +kernel⟩, List.mem_of_getElem? (i := 769) (by decide +kernel), List.mem_of_getElem? (i := 1073) (by decide +kernel), List.mem_of_getElem? (i := 1074) (by decide +kernel)⟩
theorem lw_p45 : lw_okq (⟨"ShelfNightsModel", "takesBack", "(I)I"⟩, 27) := ⟨⟨by decide +kernel, by decide +kernel⟩, List.mem_of_getElem? (i := 769) (by decide +kernel), List.mem_of_getElem? (i := 1077) (by decide +kernel), List.mem_of_getElem? (i := 1078) (by decide +kernel)⟩
theorem lw_p46 : lw_okq (⟨"ShelfNightsModel", "marks", "()V"⟩, 27) := ⟨⟨by decide +kernel, by decide +kernel⟩, List.mem_of_getElem? (i := 769) (by decide +kernel), List.mem_of_getElem? (i := 1090) (by decide +kernel), List.mem_of_getElem? (i := 1091) (by decide +kernel)⟩
theorem lw_p47 : lw_okq (⟨"ShelfNightsModel", "changes", "()Z"⟩, 27) := ⟨⟨by decide +kernel, by decide +kernel⟩, List.mem_of_getElem? (i := 769) (by decide +kernel), List.mem_of_getElem? (i := 1094) (by decide +kernel), List.mem_of_getElem? (i := 1095) (by decide +kernel)⟩
def lw_privs_3 : List (MethodName × Nat) := [(⟨"ShelfNightsModel", "name", "(I)I"⟩, 27), (⟨"ShelfNightsModel", "takes", "(I)Z"⟩, 27), (⟨"ShelfNightsModel", "gives", "(II)I"⟩, 27), (⟨"ShelfNightsModel", "goes", "(II)I"⟩, 27), (⟨"ShelfNightsModel", "merged", "(III)I"⟩, 27), (⟨"ShelfNightsModel", "go", "(II)V"⟩, 27), (⟨"ShelfNightsModel", "night", "(I)V"⟩, 27), (⟨"ShelfNightsModel", "given", "(III)I"⟩, 27), (⟨"ShelfNightsModel", "takes0", "(III)I"⟩, 27), (⟨"ShelfNightsModel", "poems", "(III)I"⟩, 27), (⟨"ShelfNightsModel", "allSense", "()I"⟩, 27), (⟨"ShelfNightsModel", "draw", "()I"⟩, 27), (⟨"ShelfNightsModel", "laysAside", "()V"⟩, 27), (⟨"ShelfNightsModel", "takesBack", "(I)I"⟩, 27), (⟨"ShelfNightsModel", "marks", "()V"⟩, 27), (⟨"ShelfNightsModel", "changes", "()Z"⟩, 27)]
theorem lw_r3 : ∀ q ∈ lw_privs_3, lw_okq q := List.forall_mem_cons.mpr ⟨lw_p32, List.forall_mem_cons.mpr ⟨lw_p33, List.forall_mem_cons.mpr ⟨lw_p34, List.forall_mem_cons.mpr ⟨lw_p35, List.forall_mem_cons.mpr ⟨lw_p36, List.forall_mem_cons.mpr ⟨lw_p37, List.forall_mem_cons.mpr ⟨lw_p38, List.forall_mem_cons.mpr ⟨lw_p39, List.forall_mem_cons.mpr ⟨lw_p40, List.forall_mem_cons.mpr ⟨lw_p41, List.forall_mem_cons.mpr ⟨lw_p42, List.forall_mem_cons.mpr ⟨lw_p43, List.forall_mem_cons.mpr ⟨lw_p44, List.forall_mem_cons.mpr ⟨lw_p45, List.forall_mem_cons.mpr ⟨lw_p46, List.forall_mem_cons.mpr ⟨lw_p47, fun _ h => absurd h List.not_mem_nil⟩⟩⟩⟩⟩⟩⟩⟩⟩⟩⟩⟩⟩⟩⟩⟩
theorem lw_p48 : lw_okq (⟨"ShelfNightsModel", "isAsNow", "()Z"⟩, 27) := ⟨⟨by decide +kernel, by decide +kernel⟩, List.mem_of_getElem? (i := 769) (by decide +kernel), List.mem_of_getElem? (i := 1102) (by decide +kernel), List.mem_of_getElem? (i := 1103) (by decide +kernel)⟩
theorem lw_p49 : lw_okq (⟨"ShelfNightsModel", "firstRow", "()V"⟩, 27) := ⟨⟨by decide +kernel, by decide +kernel⟩, List.mem_of_getElem? (i := 769) (by decide +kernel), List.mem_of_getElem? (i := 1117) (by decide +kernel), List.mem_of_getElem? (i := 1118) (by decide +kernel)⟩
theorem lw_p50 : lw_okq (⟨"ShelfNightsModel", "laysRow", "(I)V"⟩, 27) := ⟨⟨by decide +kernel, by decide +kernel⟩, List.mem_of_getElem? (i := 769) (by decide +kernel), List.mem_of_getElem? (i := 1121) (by decide +kernel), List.mem_of_getElem? (i := 1122) (by decide +kernel)⟩
theorem lw_p51 : lw_okq (⟨"ShelfNightsModel", "keepsRow", "()V"⟩, 27) := ⟨⟨by decide +kernel, by decide +kernel⟩, List.mem_of_getElem? (i := 769) (by decide +kernel), List.mem_of_getElem? (i := 1125) (by decide +kernel), List.mem_of_getElem? (i := 1126) (by decide +kernel)⟩
theorem lw_p52 : lw_okq (⟨"ShelfNightsModel", "nextRow", "()Z"⟩, 27) := ⟨⟨by decide +kernel, by decide +kernel⟩, List.mem_of_getElem? (i := 769) (by decide +kernel), List.mem_of_getElem? (i := 1129) (by decide +kernel), List.mem_of_getElem? (i := 1130) (by decide +kernel)⟩
theorem lw_p53 : lw_okq (⟨"ShelfNightsModel", "isSo", "(II)Z"⟩, 27) := ⟨⟨by decide +kernel, by decide +kernel⟩, List.mem_of_getElem? (i := 769) (by decide +kernel), List.mem_of_getElem? (i := 1145) (by decide +kernel), List.mem_of_getElem? (i := 1146) (by decide +kernel)⟩
theorem lw_p54 : lw_okq (⟨"ShelfNightsModel", "readsBy", "(I)I"⟩, 27) := ⟨⟨by decide +kernel, by decide +kernel⟩, List.mem_of_getElem? (i := 769) (by decide +kernel), List.mem_of_getElem? (i := 1161) (by decide +kernel), List.mem_of_getElem? (i := 1162) (by decide +kernel)⟩
theorem lw_p55 : lw_okq (⟨"ShelfNightsModel", "plainReads", "(I)I"⟩, 27) := ⟨⟨by decide +kernel, by decide +kernel⟩, List.mem_of_getElem? (i := 769) (by decide +kernel), List.mem_of_getElem? (i := 1165) (by decide +kernel), List.mem_of_getElem? (i := 1166) (by decide +kernel)⟩
theorem lw_p56 : lw_okq (⟨"ShelfNightsModel", "ran", "(I)V"⟩, 27) := ⟨⟨by decide +kernel, by decide +kernel⟩, List.mem_of_getElem? (i := 769) (by decide +kernel), List.mem_of_getElem? (i := 1169) (by decide +kernel), List.mem_of_getElem? (i := 1170) (by decide +kernel)⟩
theorem lw_p57 : lw_okq (⟨"ShelfNightsModel", "givesBy", "(I)I"⟩, 27) := ⟨⟨by decide +kernel, by decide +kernel⟩, List.mem_of_getElem? (i := 769) (by decide +kernel), List.mem_of_getElem? (i := 1173) (by decide +kernel), List.mem_of_getElem? (i := 1174) (by decide +kernel)⟩
theorem lw_p58 : lw_okq (⟨"ShelfNightsModel", "poemGives", "(I)I"⟩, 27) := ⟨⟨by decide +kernel, by decide +kernel⟩, List.mem_of_getElem? (i := 769) (by decide +kernel), List.mem_of_getElem? (i := 1177) (by decide +kernel), List.mem_of_getElem? (i := 1178) (by decide +kernel)⟩
theorem lw_p59 : lw_okq (⟨"ShelfNightsModel", "plainGives", "(I)I"⟩, 27) := ⟨⟨by decide +kernel, by decide +kernel⟩, List.mem_of_getElem? (i := 769) (by decide +kernel), List.mem_of_getElem? (i := 1181) (by decide +kernel), List.mem_of_getElem? (i := 1182) (by decide +kernel)⟩
theorem lw_p60 : lw_okq (⟨"ShelfNightsModel", "takesBy", "(I)I"⟩, 27) := ⟨⟨by decide +kernel, by decide +kernel⟩, List.mem_of_getElem? (i := 769) (by decide +kernel), List.mem_of_getElem? (i := 1185) (by decide +kernel), List.mem_of_getElem? (i := 1186) (by decide +kernel)⟩
theorem lw_p61 : lw_okq (⟨"ShelfNightsModel", "lawTakes", "(I)I"⟩, 27) := ⟨⟨by decide +kernel, by decide +kernel⟩, List.mem_of_getElem? (i := 769) (by decide +kernel), List.mem_of_getElem? (i := 1189) (by decide +kernel), List.mem_of_getElem? (i := 1190) (by decide +kernel)⟩
theorem lw_p62 : lw_okq (⟨"ShelfNightsModel", "plainTakes", "(I)I"⟩, 27) := ⟨⟨by decide +kernel, by decide +kernel⟩, List.mem_of_getElem? (i := 769) (by decide +kernel), List.mem_of_getElem? (i := 1193) (by decide +kernel), List.mem_of_getElem? (i := 1194) (by decide +kernel)⟩
theorem lw_p63 : lw_okq (⟨"ShelfNightsModel", "tellsBy", "(I)I"⟩, 27) := ⟨⟨by decide +kernel, by decide +kernel⟩, List.mem_of_getElem? (i := 769) (by decide +kernel), List.mem_of_getElem? (i := 1197) (by decide +kernel), List.mem_of_getElem? (i := 1198) (by decide +kernel)⟩
def lw_privs_4 : List (MethodName × Nat) := [(⟨"ShelfNightsModel", "isAsNow", "()Z"⟩, 27), (⟨"ShelfNightsModel", "firstRow", "()V"⟩, 27), (⟨"ShelfNightsModel", "laysRow", "(I)V"⟩, 27), (⟨"ShelfNightsModel", "keepsRow", "()V"⟩, 27), (⟨"ShelfNightsModel", "nextRow", "()Z"⟩, 27), (⟨"ShelfNightsModel", "isSo", "(II)Z"⟩, 27), (⟨"ShelfNightsModel", "readsBy", "(I)I"⟩, 27), (⟨"ShelfNightsModel", "plainReads", "(I)I"⟩, 27), (⟨"ShelfNightsModel", "ran", "(I)V"⟩, 27), (⟨"ShelfNightsModel", "givesBy", "(I)I"⟩, 27), (⟨"ShelfNightsModel", "poemGives", "(I)I"⟩, 27), (⟨"ShelfNightsModel", "plainGives", "(I)I"⟩, 27), (⟨"ShelfNightsModel", "takesBy", "(I)I"⟩, 27), (⟨"ShelfNightsModel", "lawTakes", "(I)I"⟩, 27), (⟨"ShelfNightsModel", "plainTakes", "(I)I"⟩, 27), (⟨"ShelfNightsModel", "tellsBy", "(I)I"⟩, 27)]
theorem lw_r4 : ∀ q ∈ lw_privs_4, lw_okq q := List.forall_mem_cons.mpr ⟨lw_p48, List.forall_mem_cons.mpr ⟨lw_p49, List.forall_mem_cons.mpr ⟨lw_p50, List.forall_mem_cons.mpr ⟨lw_p51, List.forall_mem_cons.mpr ⟨lw_p52, List.forall_mem_cons.mpr ⟨lw_p53, List.forall_mem_cons.mpr ⟨lw_p54, List.forall_mem_cons.mpr ⟨lw_p55, List.forall_mem_cons.mpr ⟨lw_p56, List.forall_mem_cons.mpr ⟨lw_p57, List.forall_mem_cons.mpr ⟨lw_p58, List.forall_mem_cons.mpr ⟨lw_p59, List.forall_mem_cons.mpr ⟨lw_p60, List.forall_mem_cons.mpr ⟨lw_p61, List.forall_mem_cons.mpr ⟨lw_p62, List.forall_mem_cons.mpr ⟨lw_p63, fun _ h => absurd h List.not_mem_nil⟩⟩⟩⟩⟩⟩⟩⟩⟩⟩⟩⟩⟩⟩⟩⟩
theorem lw_p64 : lw_okq (⟨"ShelfNightsModel", "plainTells", "(I)I"⟩, 27) := ⟨⟨by decide +kernel, by decide +kernel⟩, List.mem_of_getElem? (i := 769) (by decide +kernel), List.mem_of_getElem? (i := 1201) (by decide +kernel), List.mem_of_getElem? (i := 1202) (by decide +kernel)⟩
theorem lw_p65 : lw_okq (⟨"ShelfNightsModel", "wrong", "(I)I"⟩, 27) := ⟨⟨by decide +kernel, by decide +kernel⟩, List.mem_of_getElem? (i := 769) (by decide +kernel), List.mem_of_getElem? (i := 1217) (by decide +kernel), List.mem_of_getElem? (i := 1218) (by decide +kernel)⟩
theorem lw_p66 : lw_okq (⟨"ShelfNightsModel", "glasses", "()I"⟩, 27) := ⟨⟨by decide +kernel, by decide +kernel⟩, List.mem_of_getElem? (i := 769) (by decide +kernel), List.mem_of_getElem? (i := 1253) (by decide +kernel), List.mem_of_getElem? (i := 1254) (by decide +kernel)⟩
def lw_privs_5 : List (MethodName × Nat) := [(⟨"ShelfNightsModel", "plainTells", "(I)I"⟩, 27), (⟨"ShelfNightsModel", "wrong", "(I)I"⟩, 27), (⟨"ShelfNightsModel", "glasses", "()I"⟩, 27)]
theorem lw_r5 : ∀ q ∈ lw_privs_5, lw_okq q := List.forall_mem_cons.mpr ⟨lw_p64, List.forall_mem_cons.mpr ⟨lw_p65, List.forall_mem_cons.mpr ⟨lw_p66, fun _ h => absurd h List.not_mem_nil⟩⟩⟩
def lw_privs : List (MethodName × Nat) := lw_privs_1 ++ (lw_privs_2 ++ (lw_privs_3 ++ (lw_privs_4 ++ (lw_privs_5))))
def lw_tbl : List Cond := k2_sels lw_privs ++ tables_1
theorem lw_privs_ok : ∀ q ∈ lw_privs, lw_okq q := by
  show ∀ q ∈ lw_privs_1 ++ (lw_privs_2 ++ (lw_privs_3 ++ (lw_privs_4 ++ (lw_privs_5)))), lw_okq q
  exact List.forall_mem_append.mpr ⟨lw_r1, List.forall_mem_append.mpr ⟨lw_r2, List.forall_mem_append.mpr ⟨lw_r3, List.forall_mem_append.mpr ⟨lw_r4, lw_r5⟩⟩⟩⟩
def RX0 : String := "ShelfNights$Bible"
def TX0 : u_T := fun k => match k with
  | _ => ("", "", "", false)
def tyX0 : Nat → FieldType := fun k => match k with
  | _ => .int
theorem nmX0 : ∀ a, a < 0 → ∀ b, b < 0 → a ≠ b → (TX0 a).2.1 ≠ (TX0 b).2.1 := by decide +kernel
theorem tyX0_ok : ∀ k, k < 0 → parseFieldDescriptor (TX0 k).2.2.1 = some (tyX0 k) := by decide +kernel
abbrev cX0_init : ByteArray := prog_2_method_1_code
def yX0_init : MethodName := ⟨RX0, "<init>", "()V"⟩
abbrev cX0_given : ByteArray := prog_2_method_2_code
def yX0_given : MethodName := ⟨RX0, "given", "(II)I"⟩
abbrev cX0_taken : ByteArray := prog_2_method_3_code
def yX0_taken : MethodName := ⟨RX0, "taken", "(IIII)I"⟩
abbrev cX0_sayTakes : ByteArray := prog_2_method_4_code
def yX0_sayTakes : MethodName := ⟨RX0, "sayTakes", "(LShelfNights$Speaker;I)I"⟩
abbrev cX0_sayTells : ByteArray := prog_2_method_5_code
def yX0_sayTells : MethodName := ⟨RX0, "sayTells", "(LShelfNights$Speaker;I)I"⟩
def RX1 : String := "ShelfNights$Desk"
def TX1 : u_T := fun k => match k with
  | 0 => ("ShelfNights$Desk", "tape", "[I", true)
  | 1 => ("ShelfNights$Desk", "tapeLength", "I", false)
  | 2 => ("ShelfNights$Desk", "merge", "LShelfNights$Text;", true)
  | 3 => ("ShelfNights$Desk", "sense", "LShelfNights$Text;", true)
  | 4 => ("ShelfNights$Desk", "z", "I", false)
  | 5 => ("ShelfNights$Desk", "waits", "[I", true)
  | _ => ("ShelfNights$Desk", "waiting", "I", false)
def tyX1 : Nat → FieldType := fun k => match k with
  | 0 => .array .int
  | 1 => .int
  | 2 => .object "ShelfNights$Text"
  | 3 => .object "ShelfNights$Text"
  | 4 => .int
  | 5 => .array .int
  | _ => .int
theorem nmX1 : ∀ a, a < 7 → ∀ b, b < 7 → a ≠ b → (TX1 a).2.1 ≠ (TX1 b).2.1 := by decide +kernel
theorem tyX1_ok : ∀ k, k < 7 → parseFieldDescriptor (TX1 k).2.2.1 = some (tyX1 k) := by decide +kernel
abbrev cX1_init : ByteArray := prog_3_method_1_code
def yX1_init : MethodName := ⟨RX1, "<init>", "()V"⟩
abbrev cX1_copyFrom : ByteArray := prog_3_method_2_code
def yX1_copyFrom : MethodName := ⟨RX1, "copyFrom", "(LShelfNights$Desk;)V"⟩
abbrev cX1_merged : ByteArray := prog_3_method_3_code
def yX1_merged : MethodName := ⟨RX1, "merged", "(III)I"⟩
abbrev cX1_sensed : ByteArray := prog_3_method_4_code
def yX1_sensed : MethodName := ⟨RX1, "sensed", "(III)I"⟩
abbrev cX1_draw : ByteArray := prog_3_method_5_code
def yX1_draw : MethodName := ⟨RX1, "draw", "()I"⟩
def RX2 : String := "ShelfNights$Dictionary"
def TX2 : u_T := fun k => match k with
  | _ => ("", "", "", false)
def tyX2 : Nat → FieldType := fun k => match k with
  | _ => .int
theorem nmX2 : ∀ a, a < 0 → ∀ b, b < 0 → a ≠ b → (TX2 a).2.1 ≠ (TX2 b).2.1 := by decide +kernel
theorem tyX2_ok : ∀ k, k < 0 → parseFieldDescriptor (TX2 k).2.2.1 = some (tyX2 k) := by decide +kernel
abbrev cX2_init : ByteArray := prog_4_method_1_code
def yX2_init : MethodName := ⟨RX2, "<init>", "()V"⟩
abbrev cX2_taken : ByteArray := prog_4_method_2_code
def yX2_taken : MethodName := ⟨RX2, "taken", "(IIII)I"⟩
abbrev cX2_sayTells : ByteArray := prog_4_method_3_code
def yX2_sayTells : MethodName := ⟨RX2, "sayTells", "(LShelfNights$Speaker;I)I"⟩
def RX3 : String := "ShelfNights$Grammar"
def TX3 : u_T := fun k => match k with
  | _ => ("", "", "", false)
def tyX3 : Nat → FieldType := fun k => match k with
  | _ => .int
theorem nmX3 : ∀ a, a < 0 → ∀ b, b < 0 → a ≠ b → (TX3 a).2.1 ≠ (TX3 b).2.1 := by decide +kernel
theorem tyX3_ok : ∀ k, k < 0 → parseFieldDescriptor (TX3 k).2.2.1 = some (tyX3 k) := by decide +kernel
abbrev cX3_init : ByteArray := prog_5_method_1_code
def yX3_init : MethodName := ⟨RX3, "<init>", "()V"⟩
abbrev cX3_taken : ByteArray := prog_5_method_2_code
def yX3_taken : MethodName := ⟨RX3, "taken", "(IIII)I"⟩
abbrev cX3_sayReads : ByteArray := prog_5_method_3_code
def yX3_sayReads : MethodName := ⟨RX3, "sayReads", "(LShelfNights$Speaker;I)I"⟩
def RX4 : String := "ShelfNights$Heresy"
def TX4 : u_T := fun k => match k with
  | _ => ("", "", "", false)
def tyX4 : Nat → FieldType := fun k => match k with
  | _ => .int
theorem nmX4 : ∀ a, a < 0 → ∀ b, b < 0 → a ≠ b → (TX4 a).2.1 ≠ (TX4 b).2.1 := by decide +kernel
theorem tyX4_ok : ∀ k, k < 0 → parseFieldDescriptor (TX4 k).2.2.1 = some (tyX4 k) := by decide +kernel
abbrev cX4_init : ByteArray := prog_6_method_1_code
def yX4_init : MethodName := ⟨RX4, "<init>", "()V"⟩
abbrev cX4_given : ByteArray := prog_6_method_2_code
def yX4_given : MethodName := ⟨RX4, "given", "(II)I"⟩
abbrev cX4_taken : ByteArray := prog_6_method_3_code
def yX4_taken : MethodName := ⟨RX4, "taken", "(IIII)I"⟩
abbrev cX4_sayGives : ByteArray := prog_6_method_4_code
def yX4_sayGives : MethodName := ⟨RX4, "sayGives", "(LShelfNights$Speaker;I)I"⟩
def RX5 : String := "ShelfNights$Kind"
def TX5 : u_T := fun k => match k with
  | _ => ("", "", "", false)
def tyX5 : Nat → FieldType := fun k => match k with
  | _ => .int
theorem nmX5 : ∀ a, a < 0 → ∀ b, b < 0 → a ≠ b → (TX5 a).2.1 ≠ (TX5 b).2.1 := by decide +kernel
theorem tyX5_ok : ∀ k, k < 0 → parseFieldDescriptor (TX5 k).2.2.1 = some (tyX5 k) := by decide +kernel
abbrev cX5_init : ByteArray := prog_7_method_1_code
def yX5_init : MethodName := ⟨RX5, "<init>", "()V"⟩
abbrev cX5_given : ByteArray := prog_7_method_2_code
def yX5_given : MethodName := ⟨RX5, "given", "(II)I"⟩
abbrev cX5_taken : ByteArray := prog_7_method_3_code
def yX5_taken : MethodName := ⟨RX5, "taken", "(IIII)I"⟩
abbrev cX5_sayReads : ByteArray := prog_7_method_4_code
def yX5_sayReads : MethodName := ⟨RX5, "sayReads", "(LShelfNights$Speaker;I)I"⟩
abbrev cX5_sayGives : ByteArray := prog_7_method_5_code
def yX5_sayGives : MethodName := ⟨RX5, "sayGives", "(LShelfNights$Speaker;I)I"⟩
abbrev cX5_sayTakes : ByteArray := prog_7_method_6_code
def yX5_sayTakes : MethodName := ⟨RX5, "sayTakes", "(LShelfNights$Speaker;I)I"⟩
abbrev cX5_sayTells : ByteArray := prog_7_method_7_code
def yX5_sayTells : MethodName := ⟨RX5, "sayTells", "(LShelfNights$Speaker;I)I"⟩
def RX6 : String := "ShelfNights$Law"
def TX6 : u_T := fun k => match k with
  | _ => ("", "", "", false)
def tyX6 : Nat → FieldType := fun k => match k with
  | _ => .int
theorem nmX6 : ∀ a, a < 0 → ∀ b, b < 0 → a ≠ b → (TX6 a).2.1 ≠ (TX6 b).2.1 := by decide +kernel
theorem tyX6_ok : ∀ k, k < 0 → parseFieldDescriptor (TX6 k).2.2.1 = some (tyX6 k) := by decide +kernel
abbrev cX6_init : ByteArray := prog_8_method_1_code
def yX6_init : MethodName := ⟨RX6, "<init>", "()V"⟩
abbrev cX6_given : ByteArray := prog_8_method_2_code
def yX6_given : MethodName := ⟨RX6, "given", "(II)I"⟩
abbrev cX6_sayTakes : ByteArray := prog_8_method_3_code
def yX6_sayTakes : MethodName := ⟨RX6, "sayTakes", "(LShelfNights$Speaker;I)I"⟩
def RX7 : String := "ShelfNights$Poem"
def TX7 : u_T := fun k => match k with
  | _ => ("", "", "", false)
def tyX7 : Nat → FieldType := fun k => match k with
  | _ => .int
theorem nmX7 : ∀ a, a < 0 → ∀ b, b < 0 → a ≠ b → (TX7 a).2.1 ≠ (TX7 b).2.1 := by decide +kernel
theorem tyX7_ok : ∀ k, k < 0 → parseFieldDescriptor (TX7 k).2.2.1 = some (tyX7 k) := by decide +kernel
abbrev cX7_init : ByteArray := prog_9_method_1_code
def yX7_init : MethodName := ⟨RX7, "<init>", "()V"⟩
abbrev cX7_given : ByteArray := prog_9_method_2_code
def yX7_given : MethodName := ⟨RX7, "given", "(II)I"⟩
abbrev cX7_taken : ByteArray := prog_9_method_3_code
def yX7_taken : MethodName := ⟨RX7, "taken", "(IIII)I"⟩
abbrev cX7_sayGives : ByteArray := prog_9_method_4_code
def yX7_sayGives : MethodName := ⟨RX7, "sayGives", "(LShelfNights$Speaker;I)I"⟩
def RX8 : String := "ShelfNights$Shelf"
def TX8 : u_T := fun k => match k with
  | 0 => ("ShelfNights$Shelf", "kinds", "[LShelfNights$Kind;", true)
  | 1 => ("ShelfNights$Shelf", "kind", "[I", true)
  | 2 => ("ShelfNights$Shelf", "m", "[I", true)
  | 3 => ("ShelfNights$Shelf", "glass", "[Z", true)
  | 4 => ("ShelfNights$Shelf", "pages", "[I", true)
  | 5 => ("ShelfNights$Shelf", "row", "[I", true)
  | 6 => ("ShelfNights$Shelf", "gives", "[I", true)
  | 7 => ("ShelfNights$Shelf", "books", "I", false)
  | _ => ("ShelfNights$Shelf", "night", "I", false)
def tyX8 : Nat → FieldType := fun k => match k with
  | 0 => .array (.object "ShelfNights$Kind")
  | 1 => .array .int
  | 2 => .array .int
  | 3 => .array .boolean
  | 4 => .array .int
  | 5 => .array .int
  | 6 => .array .int
  | 7 => .int
  | _ => .int
theorem nmX8 : ∀ a, a < 9 → ∀ b, b < 9 → a ≠ b → (TX8 a).2.1 ≠ (TX8 b).2.1 := by decide +kernel
theorem tyX8_ok : ∀ k, k < 9 → parseFieldDescriptor (TX8 k).2.2.1 = some (tyX8 k) := by decide +kernel
abbrev cX8_init : ByteArray := prog_10_method_1_code
def yX8_init : MethodName := ⟨RX8, "<init>", "([LShelfNights$Kind;)V"⟩
abbrev cX8_copyFrom : ByteArray := prog_10_method_2_code
def yX8_copyFrom : MethodName := ⟨RX8, "copyFrom", "(LShelfNights$Shelf;)V"⟩
abbrev cX8_addBook : ByteArray := prog_10_method_3_code
def yX8_addBook : MethodName := ⟨RX8, "addBook", "(II)I"⟩
abbrev cX8_kindOf : ByteArray := prog_10_method_4_code
def yX8_kindOf : MethodName := ⟨RX8, "kindOf", "(I)LShelfNights$Kind;"⟩
abbrev cX8_said : ByteArray := prog_10_method_5_code
def yX8_said : MethodName := ⟨RX8, "said", "(II)I"⟩
abbrev cX8_given : ByteArray := prog_10_method_6_code
def yX8_given : MethodName := ⟨RX8, "given", "(II)I"⟩
abbrev cX8_saysAs : ByteArray := prog_10_method_7_code
def yX8_saysAs : MethodName := ⟨RX8, "saysAs", "(LShelfNights$Shelf;)Z"⟩
abbrev cX8_placeOf : ByteArray := prog_10_method_8_code
def yX8_placeOf : MethodName := ⟨RX8, "placeOf", "(I)I"⟩
abbrev cX8_moveBook : ByteArray := prog_10_method_9_code
def yX8_moveBook : MethodName := ⟨RX8, "moveBook", "(II)V"⟩
abbrev cX8_underGlass : ByteArray := prog_10_method_10_code
def yX8_underGlass : MethodName := ⟨RX8, "underGlass", "()I"⟩
abbrev cX8_senseOf : ByteArray := prog_10_method_11_code
def yX8_senseOf : MethodName := ⟨RX8, "senseOf", "(ILShelfNights$Desk;)I"⟩
abbrev cX8_senseOfAll : ByteArray := prog_10_method_12_code
def yX8_senseOfAll : MethodName := ⟨RX8, "senseOfAll", "(LShelfNights$Desk;)I"⟩
abbrev cX8_passNight : ByteArray := prog_10_method_13_code
def yX8_passNight : MethodName := ⟨RX8, "passNight", "(LShelfNights$Desk;I)Z"⟩
abbrev cX8_givenAt : ByteArray := prog_10_method_14_code
def yX8_givenAt : MethodName := ⟨RX8, "givenAt", "(II)I"⟩
def RX9 : String := "ShelfNights$Speaker"
def TX9 : u_T := fun k => match k with
  | 0 => ("ShelfNights$Speaker", "bodies", "[I", true)
  | 1 => ("ShelfNights$Speaker", "traced", "I", false)
  | 2 => ("ShelfNights$Speaker", "number", "I", false)
  | _ => ("ShelfNights$Speaker", "m", "I", false)
def tyX9 : Nat → FieldType := fun k => match k with
  | 0 => .array .int
  | 1 => .int
  | 2 => .int
  | _ => .int
theorem nmX9 : ∀ a, a < 4 → ∀ b, b < 4 → a ≠ b → (TX9 a).2.1 ≠ (TX9 b).2.1 := by decide +kernel
theorem tyX9_ok : ∀ k, k < 4 → parseFieldDescriptor (TX9 k).2.2.1 = some (tyX9 k) := by decide +kernel
abbrev cX9_init : ByteArray := prog_11_method_1_code
def yX9_init : MethodName := ⟨RX9, "<init>", "()V"⟩
abbrev cX9_begin : ByteArray := prog_11_method_2_code
def yX9_begin : MethodName := ⟨RX9, "begin", "(II)V"⟩
abbrev cX9_note : ByteArray := prog_11_method_3_code
def yX9_note : MethodName := ⟨RX9, "note", "(I)V"⟩
def RX10 : String := "ShelfNights$Text"
def TX10 : u_T := fun k => match k with
  | 0 => ("ShelfNights$Text", "code", "[I", true)
  | 1 => ("ShelfNights$Text", "length", "I", false)
  | 2 => ("ShelfNights$Text", "worths", "[I", true)
  | 3 => ("ShelfNights$Text", "signs", "[I", true)
  | 4 => ("ShelfNights$Text", "waiting", "I", false)
  | 5 => ("ShelfNights$Text", "open", "I", false)
  | 6 => ("ShelfNights$Text", "digits", "I", false)
  | _ => ("ShelfNights$Text", "due", "Z", false)
def tyX10 : Nat → FieldType := fun k => match k with
  | 0 => .array .int
  | 1 => .int
  | 2 => .array .int
  | 3 => .array .int
  | 4 => .int
  | 5 => .int
  | 6 => .int
  | _ => .boolean
theorem nmX10 : ∀ a, a < 8 → ∀ b, b < 8 → a ≠ b → (TX10 a).2.1 ≠ (TX10 b).2.1 := by decide +kernel
theorem tyX10_ok : ∀ k, k < 8 → parseFieldDescriptor (TX10 k).2.2.1 = some (tyX10 k) := by decide +kernel
abbrev cX10_init : ByteArray := prog_12_method_1_code
def yX10_init : MethodName := ⟨RX10, "<init>", "()V"⟩
abbrev cX10_isThere : ByteArray := prog_12_method_2_code
def yX10_isThere : MethodName := ⟨RX10, "isThere", "()Z"⟩
abbrev cX10_copyFrom : ByteArray := prog_12_method_3_code
def yX10_copyFrom : MethodName := ⟨RX10, "copyFrom", "(LShelfNights$Text;)V"⟩
abbrev cX10_worth : ByteArray := prog_12_method_4_code
def yX10_worth : MethodName := ⟨RX10, "worth", "(III)I"⟩
abbrev cX10_joined : ByteArray := prog_12_method_5_code
def yX10_joined : MethodName := ⟨RX10, "joined", "(III)I"⟩
abbrev cX10_readFrom : ByteArray := prog_12_method_6_code
def yX10_readFrom : MethodName := ⟨RX10, "readFrom", "([III)I"⟩
abbrev cX10_beginsQ : ByteArray := prog_12_method_7_code
def yX10_beginsQ : MethodName := ⟨RX10, "beginsQ", "(II)Z"⟩
abbrev cX10_followsQ : ByteArray := prog_12_method_8_code
def yX10_followsQ : MethodName := ⟨RX10, "followsQ", "(I)Z"⟩
abbrev cX10_goesOnInNumber : ByteArray := prog_12_method_9_code
def yX10_goesOnInNumber : MethodName := ⟨RX10, "goesOnInNumber", "(I)Z"⟩
abbrev cX10_closes : ByteArray := prog_12_method_10_code
def yX10_closes : MethodName := ⟨RX10, "closes", "()Z"⟩
abbrev cX10_settle : ByteArray := prog_12_method_11_code
def yX10_settle : MethodName := ⟨RX10, "settle", "(I)V"⟩
abbrev cX10_hold : ByteArray := prog_12_method_12_code
def yX10_hold : MethodName := ⟨RX10, "hold", "(I)V"⟩
abbrev cX10_add : ByteArray := prog_12_method_13_code
def yX10_add : MethodName := ⟨RX10, "add", "(I)V"⟩
abbrev cX10_isDigit : ByteArray := prog_12_method_14_code
def yX10_isDigit : MethodName := ⟨RX10, "isDigit", "(I)Z"⟩
abbrev cX10_strengthOf : ByteArray := prog_12_method_15_code
def yX10_strengthOf : MethodName := ⟨RX10, "strengthOf", "(I)I"⟩
def RX11 : String := "ShelfNights"
def TX11 : u_T := fun k => match k with
  | 0 => ("ShelfNights", "shelf", "LShelfNights$Shelf;", true)
  | 1 => ("ShelfNights", "desk", "LShelfNights$Desk;", true)
  | 2 => ("ShelfNights", "keptShelf", "LShelfNights$Shelf;", true)
  | 3 => ("ShelfNights", "keptDesk", "LShelfNights$Desk;", true)
  | 4 => ("ShelfNights", "images", "I", false)
  | 5 => ("ShelfNights", "thought", "LShelfNights$Shelf;", true)
  | 6 => ("ShelfNights", "row", "[I", true)
  | 7 => ("ShelfNights", "foundRow", "[I", true)
  | 8 => ("ShelfNights", "fresh", "LShelfNights$Text;", true)
  | 9 => ("ShelfNights", "speaker", "LShelfNights$Speaker;", true)
  | 10 => ("ShelfNights", "sheetBits", "[I", true)
  | 11 => ("ShelfNights", "sheetLength", "[I", true)
  | 12 => ("ShelfNights", "sheets", "[[I", true)
  | _ => ("ShelfNights", "errors", "[I", true)
def tyX11 : Nat → FieldType := fun k => match k with
  | 0 => .object "ShelfNights$Shelf"
  | 1 => .object "ShelfNights$Desk"
  | 2 => .object "ShelfNights$Shelf"
  | 3 => .object "ShelfNights$Desk"
  | 4 => .int
  | 5 => .object "ShelfNights$Shelf"
  | 6 => .array .int
  | 7 => .array .int
  | 8 => .object "ShelfNights$Text"
  | 9 => .object "ShelfNights$Speaker"
  | 10 => .array .int
  | 11 => .array .int
  | 12 => .array (.array .int)
  | _ => .array .int
theorem nmX11 : ∀ a, a < 14 → ∀ b, b < 14 → a ≠ b → (TX11 a).2.1 ≠ (TX11 b).2.1 := by decide +kernel
theorem tyX11_ok : ∀ k, k < 14 → parseFieldDescriptor (TX11 k).2.2.1 = some (tyX11 k) := by decide +kernel
abbrev cX11_init : ByteArray := prog_1_method_1_code
def yX11_init : MethodName := ⟨RX11, "<init>", "()V"⟩
abbrev cX11_book : ByteArray := prog_1_method_2_code
def yX11_book : MethodName := ⟨RX11, "book", "(I)I"⟩
abbrev cX11_page : ByteArray := prog_1_method_3_code
def yX11_page : MethodName := ⟨RX11, "page", "(III)I"⟩
abbrev cX11_pageOf : ByteArray := prog_1_method_4_code
def yX11_pageOf : MethodName := ⟨RX11, "pageOf", "(II)I"⟩
abbrev cX11_ofBook : ByteArray := prog_1_method_5_code
def yX11_ofBook : MethodName := ⟨RX11, "ofBook", "(II)I"⟩
abbrev cX11_become : ByteArray := prog_1_method_6_code
def yX11_become : MethodName := ⟨RX11, "become", "(II)I"⟩
abbrev cX11_as : ByteArray := prog_1_method_7_code
def yX11_as : MethodName := ⟨RX11, "as", "(II)I"⟩
abbrev cX11_glass : ByteArray := prog_1_method_8_code
def yX11_glass : MethodName := ⟨RX11, "glass", "(II)I"⟩
abbrev cX11_stand : ByteArray := prog_1_method_9_code
def yX11_stand : MethodName := ⟨RX11, "stand", "(II)I"⟩
abbrev cX11_at : ByteArray := prog_1_method_10_code
def yX11_at : MethodName := ⟨RX11, "at", "(I)I"⟩
abbrev cX11_feed : ByteArray := prog_1_method_11_code
def yX11_feed : MethodName := ⟨RX11, "feed", "(JI)I"⟩
abbrev cX11_text : ByteArray := prog_1_method_12_code
def yX11_text : MethodName := ⟨RX11, "text", "(I)I"⟩
abbrev cX11_law : ByteArray := prog_1_method_13_code
def yX11_law : MethodName := ⟨RX11, "law", "(IIII)I"⟩
abbrev cX11_nights : ByteArray := prog_1_method_14_code
def yX11_nights : MethodName := ⟨RX11, "nights", "(I)I"⟩
abbrev cX11_readers : ByteArray := prog_1_method_15_code
def yX11_readers : MethodName := ⟨RX11, "readers", "(I)I"⟩
abbrev cX11_then : ByteArray := prog_1_method_16_code
def yX11_then : MethodName := ⟨RX11, "then", "(III)I"⟩
abbrev cX11_when : ByteArray := prog_1_method_17_code
def yX11_when : MethodName := ⟨RX11, "when", "(III)I"⟩
abbrev cX11_still : ByteArray := prog_1_method_18_code
def yX11_still : MethodName := ⟨RX11, "still", "()I"⟩
abbrev cX11_round : ByteArray := prog_1_method_19_code
def yX11_round : MethodName := ⟨RX11, "round", "()I"⟩
abbrev cX11_place : ByteArray := prog_1_method_20_code
def yX11_place : MethodName := ⟨RX11, "place", "(IIII)I"⟩
abbrev cX11_order : ByteArray := prog_1_method_21_code
def yX11_order : MethodName := ⟨RX11, "order", "(II)I"⟩
abbrev cX11_apart : ByteArray := prog_1_method_22_code
def yX11_apart : MethodName := ⟨RX11, "apart", "(II)I"⟩
abbrev cX11_stood : ByteArray := prog_1_method_23_code
def yX11_stood : MethodName := ⟨RX11, "stood", "(IIII)I"⟩
abbrev cX11_wantedBy : ByteArray := prog_1_method_24_code
def yX11_wantedBy : MethodName := ⟨RX11, "wantedBy", "(III)I"⟩
abbrev cX11_seed : ByteArray := prog_1_method_25_code
def yX11_seed : MethodName := ⟨RX11, "seed", "(I)I"⟩
abbrev cX11_voice : ByteArray := prog_1_method_26_code
def yX11_voice : MethodName := ⟨RX11, "voice", "(III)I"⟩
abbrev cX11_trace : ByteArray := prog_1_method_27_code
def yX11_trace : MethodName := ⟨RX11, "trace", "(I)I"⟩
abbrev cX11_sheet : ByteArray := prog_1_method_28_code
def yX11_sheet : MethodName := ⟨RX11, "sheet", "(III)I"⟩
abbrev cX11_put : ByteArray := prog_1_method_29_code
def yX11_put : MethodName := ⟨RX11, "put", "(III)I"⟩
abbrev cX11_move : ByteArray := prog_1_method_30_code
def yX11_move : MethodName := ⟨RX11, "move", "(IIIII)I"⟩
abbrev cX11_reads : ByteArray := prog_1_method_31_code
def yX11_reads : MethodName := ⟨RX11, "reads", "(I)I"⟩
abbrev cX11_judge : ByteArray := prog_1_method_32_code
def yX11_judge : MethodName := ⟨RX11, "judge", "(II)I"⟩
abbrev cX11_image : ByteArray := prog_1_method_33_code
def yX11_image : MethodName := ⟨RX11, "image", "()I"⟩
abbrev cX11_restore : ByteArray := prog_1_method_34_code
def yX11_restore : MethodName := ⟨RX11, "restore", "()I"⟩
abbrev cX11_tell : ByteArray := prog_1_method_35_code
def yX11_tell : MethodName := ⟨RX11, "tell", "(I)I"⟩
abbrev cX11_check : ByteArray := prog_1_method_36_code
def yX11_check : MethodName := ⟨RX11, "check", "()I"⟩
abbrev cX11_count : ByteArray := prog_1_method_37_code
def yX11_count : MethodName := ⟨RX11, "count", "(I)I"⟩
abbrev cX11_told : ByteArray := prog_1_method_38_code
def yX11_told : MethodName := ⟨RX11, "told", "(I)I"⟩
abbrev cX11_error : ByteArray := prog_1_method_39_code
def yX11_error : MethodName := ⟨RX11, "error", "(I)I"⟩
abbrev cX11_isWithin : ByteArray := prog_1_method_40_code
def yX11_isWithin : MethodName := ⟨RX11, "isWithin", "(III)Z"⟩
abbrev cX11_isSaid : ByteArray := prog_1_method_41_code
def yX11_isSaid : MethodName := ⟨RX11, "isSaid", "(I)Z"⟩
abbrev cX11_isBook : ByteArray := prog_1_method_42_code
def yX11_isBook : MethodName := ⟨RX11, "isBook", "(I)Z"⟩
abbrev cX11_isPageOfBook : ByteArray := prog_1_method_43_code
def yX11_isPageOfBook : MethodName := ⟨RX11, "isPageOfBook", "(II)Z"⟩
abbrev cX11_isPlace : ByteArray := prog_1_method_44_code
def yX11_isPlace : MethodName := ⟨RX11, "isPlace", "(I)Z"⟩
abbrev cX11_isRowQuestion : ByteArray := prog_1_method_45_code
def yX11_isRowQuestion : MethodName := ⟨RX11, "isRowQuestion", "(I)Z"⟩
abbrev cX11_isSheet : ByteArray := prog_1_method_46_code
def yX11_isSheet : MethodName := ⟨RX11, "isSheet", "(I)Z"⟩
abbrev cX11_isMissing : ByteArray := prog_1_method_47_code
def yX11_isMissing : MethodName := ⟨RX11, "isMissing", "(I)Z"⟩
abbrev cX11_standThere : ByteArray := prog_1_method_48_code
def yX11_standThere : MethodName := ⟨RX11, "standThere", "(III)Z"⟩
abbrev cX11_lowestBits : ByteArray := prog_1_method_49_code
def yX11_lowestBits : MethodName := ⟨RX11, "lowestBits", "(II)I"⟩
abbrev cX11_isUnder : ByteArray := prog_1_method_50_code
def yX11_isUnder : MethodName := ⟨RX11, "isUnder", "(II)Z"⟩
abbrev cX11_thinkNights : ByteArray := prog_1_method_51_code
def yX11_thinkNights : MethodName := ⟨RX11, "thinkNights", "(II)V"⟩
abbrev cX11_thinkRow : ByteArray := prog_1_method_52_code
def yX11_thinkRow : MethodName := ⟨RX11, "thinkRow", "(I)V"⟩
abbrev cX11_findBestRow : ByteArray := prog_1_method_53_code
def yX11_findBestRow : MethodName := ⟨RX11, "findBestRow", "(I)I"⟩
abbrev cX11_findRowsBy : ByteArray := prog_1_method_54_code
def yX11_findRowsBy : MethodName := ⟨RX11, "findRowsBy", "(III)I"⟩
abbrev cX11_isAsOnSheet : ByteArray := prog_1_method_55_code
def yX11_isAsOnSheet : MethodName := ⟨RX11, "isAsOnSheet", "(II)Z"⟩
abbrev cX11_beginRows : ByteArray := prog_1_method_56_code
def yX11_beginRows : MethodName := ⟨RX11, "beginRows", "()V"⟩
abbrev cX11_nextRow : ByteArray := prog_1_method_57_code
def yX11_nextRow : MethodName := ⟨RX11, "nextRow", "()Z"⟩
abbrev cX11_swapInRow : ByteArray := prog_1_method_58_code
def yX11_swapInRow : MethodName := ⟨RX11, "swapInRow", "(II)V"⟩
def RX12 : String := "ShelfNightsModel"
def TX12 : u_T := fun k => match k with
  | 0 => ("ShelfNightsModel", "s", "[I", true)
  | 1 => ("ShelfNightsModel", "kept", "[I", true)
  | 2 => ("ShelfNightsModel", "aside", "[I", true)
  | 3 => ("ShelfNightsModel", "errors", "[I", true)
  | 4 => ("ShelfNightsModel", "images", "I", false)
  | 5 => ("ShelfNightsModel", "first", "I", false)
  | 6 => ("ShelfNightsModel", "size", "I", false)
  | 7 => ("ShelfNightsModel", "at", "I", false)
  | 8 => ("ShelfNightsModel", "open", "I", false)
  | 9 => ("ShelfNightsModel", "use0", "I", false)
  | 10 => ("ShelfNightsModel", "one0", "I", false)
  | 11 => ("ShelfNightsModel", "two0", "I", false)
  | 12 => ("ShelfNightsModel", "three0", "I", false)
  | 13 => ("ShelfNightsModel", "isWrong", "Z", false)
  | 14 => ("ShelfNightsModel", "said", "[I", true)
  | 15 => ("ShelfNightsModel", "wasSaid", "[I", true)
  | 16 => ("ShelfNightsModel", "row", "[I", true)
  | 17 => ("ShelfNightsModel", "found", "[I", true)
  | 18 => ("ShelfNightsModel", "trace", "[I", true)
  | 19 => ("ShelfNightsModel", "bodies", "I", false)
  | 20 => ("ShelfNightsModel", "kind0", "I", false)
  | 21 => ("ShelfNightsModel", "number0", "I", false)
  | 22 => ("ShelfNightsModel", "m0", "I", false)
  | 23 => ("ShelfNightsModel", "bitsOf", "[I", true)
  | 24 => ("ShelfNightsModel", "sizeOf", "[I", true)
  | 25 => ("ShelfNightsModel", "numbers", "[I", true)
  | _ => ("ShelfNightsModel", "moved", "[I", true)
def tyX12 : Nat → FieldType := fun k => match k with
  | 0 => .array .int
  | 1 => .array .int
  | 2 => .array .int
  | 3 => .array .int
  | 4 => .int
  | 5 => .int
  | 6 => .int
  | 7 => .int
  | 8 => .int
  | 9 => .int
  | 10 => .int
  | 11 => .int
  | 12 => .int
  | 13 => .boolean
  | 14 => .array .int
  | 15 => .array .int
  | 16 => .array .int
  | 17 => .array .int
  | 18 => .array .int
  | 19 => .int
  | 20 => .int
  | 21 => .int
  | 22 => .int
  | 23 => .array .int
  | 24 => .array .int
  | 25 => .array .int
  | _ => .array .int
theorem nmX12 : ∀ a, a < 27 → ∀ b, b < 27 → a ≠ b → (TX12 a).2.1 ≠ (TX12 b).2.1 := by decide +kernel
theorem tyX12_ok : ∀ k, k < 27 → parseFieldDescriptor (TX12 k).2.2.1 = some (tyX12 k) := by decide +kernel
abbrev cX12_init : ByteArray := prog_14_method_1_code
def yX12_init : MethodName := ⟨RX12, "<init>", "()V"⟩
abbrev cX12_in : ByteArray := prog_14_method_2_code
def yX12_in : MethodName := ⟨RX12, "in", "(JJJ)Z"⟩
abbrev cX12_errs : ByteArray := prog_14_method_3_code
def yX12_errs : MethodName := ⟨RX12, "errs", "(I)I"⟩
abbrev cX12_held : ByteArray := prog_14_method_4_code
def yX12_held : MethodName := ⟨RX12, "held", "(III)I"⟩
abbrev cX12_laysAside : ByteArray := prog_14_method_5_code
def yX12_laysAside : MethodName := ⟨RX12, "laysAside", "()V"⟩
abbrev cX12_takesBack : ByteArray := prog_14_method_6_code
def yX12_takesBack : MethodName := ⟨RX12, "takesBack", "(I)I"⟩
abbrev cX12_isBook : ByteArray := prog_14_method_7_code
def yX12_isBook : MethodName := ⟨RX12, "isBook", "(I)Z"⟩
abbrev cX12_isPage : ByteArray := prog_14_method_8_code
def yX12_isPage : MethodName := ⟨RX12, "isPage", "(I)Z"⟩
abbrev cX12_isSaid : ByteArray := prog_14_method_9_code
def yX12_isSaid : MethodName := ⟨RX12, "isSaid", "(I)Z"⟩
abbrev cX12_isMind : ByteArray := prog_14_method_10_code
def yX12_isMind : MethodName := ⟨RX12, "isMind", "(I)Z"⟩
abbrev cX12_spot : ByteArray := prog_14_method_11_code
def yX12_spot : MethodName := ⟨RX12, "spot", "(II)I"⟩
abbrev cX12_its : ByteArray := prog_14_method_12_code
def yX12_its : MethodName := ⟨RX12, "its", "(II)I"⟩
abbrev cX12_pageAt : ByteArray := prog_14_method_13_code
def yX12_pageAt : MethodName := ⟨RX12, "pageAt", "(II)I"⟩
abbrev cX12_becomes : ByteArray := prog_14_method_14_code
def yX12_becomes : MethodName := ⟨RX12, "becomes", "(II)I"⟩
abbrev cX12_placeOf : ByteArray := prog_14_method_15_code
def yX12_placeOf : MethodName := ⟨RX12, "placeOf", "(I)I"⟩
abbrev cX12_book : ByteArray := prog_14_method_16_code
def yX12_book : MethodName := ⟨RX12, "book", "(I)I"⟩
abbrev cX12_page : ByteArray := prog_14_method_17_code
def yX12_page : MethodName := ⟨RX12, "page", "(III)I"⟩
abbrev cX12_pageOf : ByteArray := prog_14_method_18_code
def yX12_pageOf : MethodName := ⟨RX12, "pageOf", "(II)I"⟩
abbrev cX12_gives : ByteArray := prog_14_method_19_code
def yX12_gives : MethodName := ⟨RX12, "gives", "(II)I"⟩
abbrev cX12_poems : ByteArray := prog_14_method_20_code
def yX12_poems : MethodName := ⟨RX12, "poems", "(III)I"⟩
abbrev cX12_takes0 : ByteArray := prog_14_method_21_code
def yX12_takes0 : MethodName := ⟨RX12, "takes0", "(III)I"⟩
abbrev cX12_senseOf : ByteArray := prog_14_method_22_code
def yX12_senseOf : MethodName := ⟨RX12, "senseOf", "(I)I"⟩
abbrev cX12_allSense : ByteArray := prog_14_method_23_code
def yX12_allSense : MethodName := ⟨RX12, "allSense", "()I"⟩
abbrev cX12_ofBook : ByteArray := prog_14_method_24_code
def yX12_ofBook : MethodName := ⟨RX12, "ofBook", "(II)I"⟩
abbrev cX12_become : ByteArray := prog_14_method_25_code
def yX12_become : MethodName := ⟨RX12, "become", "(II)I"⟩
abbrev cX12_isUnder : ByteArray := prog_14_method_26_code
def yX12_isUnder : MethodName := ⟨RX12, "isUnder", "(II)Z"⟩
abbrev cX12_as : ByteArray := prog_14_method_27_code
def yX12_as : MethodName := ⟨RX12, "as", "(II)I"⟩
abbrev cX12_glass : ByteArray := prog_14_method_28_code
def yX12_glass : MethodName := ⟨RX12, "glass", "(II)I"⟩
abbrev cX12_goes : ByteArray := prog_14_method_29_code
def yX12_goes : MethodName := ⟨RX12, "goes", "(II)I"⟩
abbrev cX12_stand : ByteArray := prog_14_method_30_code
def yX12_stand : MethodName := ⟨RX12, "stand", "(II)I"⟩
abbrev cX12_at : ByteArray := prog_14_method_31_code
def yX12_at : MethodName := ⟨RX12, "at", "(I)I"⟩
abbrev cX12_feed : ByteArray := prog_14_method_32_code
def yX12_feed : MethodName := ⟨RX12, "feed", "(JI)I"⟩
abbrev cX12_here : ByteArray := prog_14_method_33_code
def yX12_here : MethodName := ⟨RX12, "here", "()I"⟩
abbrev cX12_takes : ByteArray := prog_14_method_34_code
def yX12_takes : MethodName := ⟨RX12, "takes", "(I)Z"⟩
abbrev cX12_name : ByteArray := prog_14_method_35_code
def yX12_name : MethodName := ⟨RX12, "name", "(I)I"⟩
abbrev cX12_isDigit : ByteArray := prog_14_method_36_code
def yX12_isDigit : MethodName := ⟨RX12, "isDigit", "(I)Z"⟩
abbrev cX12_single : ByteArray := prog_14_method_37_code
def yX12_single : MethodName := ⟨RX12, "single", "()I"⟩
abbrev cX12_product : ByteArray := prog_14_method_38_code
def yX12_product : MethodName := ⟨RX12, "product", "()I"⟩
abbrev cX12_sum : ByteArray := prog_14_method_39_code
def yX12_sum : MethodName := ⟨RX12, "sum", "()I"⟩
abbrev cX12_test : ByteArray := prog_14_method_40_code
def yX12_test : MethodName := ⟨RX12, "test", "()I"⟩
abbrev cX12_both : ByteArray := prog_14_method_41_code
def yX12_both : MethodName := ⟨RX12, "both", "()I"⟩
abbrev cX12_any : ByteArray := prog_14_method_42_code
def yX12_any : MethodName := ⟨RX12, "any", "()I"⟩
abbrev cX12_readsText : ByteArray := prog_14_method_43_code
def yX12_readsText : MethodName := ⟨RX12, "readsText", "(IIIIII)I"⟩
abbrev cX12_worked : ByteArray := prog_14_method_44_code
def yX12_worked : MethodName := ⟨RX12, "worked", "(IIII)I"⟩
abbrev cX12_text : ByteArray := prog_14_method_45_code
def yX12_text : MethodName := ⟨RX12, "text", "(I)I"⟩
abbrev cX12_merged : ByteArray := prog_14_method_46_code
def yX12_merged : MethodName := ⟨RX12, "merged", "(III)I"⟩
abbrev cX12_senses : ByteArray := prog_14_method_47_code
def yX12_senses : MethodName := ⟨RX12, "senses", "(III)I"⟩
abbrev cX12_law : ByteArray := prog_14_method_48_code
def yX12_law : MethodName := ⟨RX12, "law", "(IIII)I"⟩
abbrev cX12_given : ByteArray := prog_14_method_49_code
def yX12_given : MethodName := ⟨RX12, "given", "(III)I"⟩
abbrev cX12_night : ByteArray := prog_14_method_50_code
def yX12_night : MethodName := ⟨RX12, "night", "(I)V"⟩
abbrev cX12_go : ByteArray := prog_14_method_51_code
def yX12_go : MethodName := ⟨RX12, "go", "(II)V"⟩
abbrev cX12_nights : ByteArray := prog_14_method_52_code
def yX12_nights : MethodName := ⟨RX12, "nights", "(I)I"⟩
abbrev cX12_draw : ByteArray := prog_14_method_53_code
def yX12_draw : MethodName := ⟨RX12, "draw", "()I"⟩
abbrev cX12_readers : ByteArray := prog_14_method_54_code
def yX12_readers : MethodName := ⟨RX12, "readers", "(I)I"⟩
abbrev cX12_then : ByteArray := prog_14_method_55_code
def yX12_then : MethodName := ⟨RX12, "then", "(III)I"⟩
abbrev cX12_when : ByteArray := prog_14_method_56_code
def yX12_when : MethodName := ⟨RX12, "when", "(III)I"⟩
abbrev cX12_changes : ByteArray := prog_14_method_57_code
def yX12_changes : MethodName := ⟨RX12, "changes", "()Z"⟩
abbrev cX12_marks : ByteArray := prog_14_method_58_code
def yX12_marks : MethodName := ⟨RX12, "marks", "()V"⟩
abbrev cX12_still : ByteArray := prog_14_method_59_code
def yX12_still : MethodName := ⟨RX12, "still", "()I"⟩
abbrev cX12_isAsNow : ByteArray := prog_14_method_60_code
def yX12_isAsNow : MethodName := ⟨RX12, "isAsNow", "()Z"⟩
abbrev cX12_round : ByteArray := prog_14_method_61_code
def yX12_round : MethodName := ⟨RX12, "round", "()I"⟩
abbrev cX12_place : ByteArray := prog_14_method_62_code
def yX12_place : MethodName := ⟨RX12, "place", "(IIII)I"⟩
abbrev cX12_firstRow : ByteArray := prog_14_method_63_code
def yX12_firstRow : MethodName := ⟨RX12, "firstRow", "()V"⟩
abbrev cX12_nextRow : ByteArray := prog_14_method_64_code
def yX12_nextRow : MethodName := ⟨RX12, "nextRow", "()Z"⟩
abbrev cX12_laysRow : ByteArray := prog_14_method_65_code
def yX12_laysRow : MethodName := ⟨RX12, "laysRow", "(I)V"⟩
abbrev cX12_keepsRow : ByteArray := prog_14_method_66_code
def yX12_keepsRow : MethodName := ⟨RX12, "keepsRow", "()V"⟩
abbrev cX12_order : ByteArray := prog_14_method_67_code
def yX12_order : MethodName := ⟨RX12, "order", "(II)I"⟩
abbrev cX12_apart : ByteArray := prog_14_method_68_code
def yX12_apart : MethodName := ⟨RX12, "apart", "(II)I"⟩
abbrev cX12_isSo : ByteArray := prog_14_method_69_code
def yX12_isSo : MethodName := ⟨RX12, "isSo", "(II)Z"⟩
abbrev cX12_stood : ByteArray := prog_14_method_70_code
def yX12_stood : MethodName := ⟨RX12, "stood", "(IIII)I"⟩
abbrev cX12_wantedBy : ByteArray := prog_14_method_71_code
def yX12_wantedBy : MethodName := ⟨RX12, "wantedBy", "(III)I"⟩
abbrev cX12_seed : ByteArray := prog_14_method_72_code
def yX12_seed : MethodName := ⟨RX12, "seed", "(I)I"⟩
abbrev cX12_ran : ByteArray := prog_14_method_73_code
def yX12_ran : MethodName := ⟨RX12, "ran", "(I)V"⟩
abbrev cX12_plainReads : ByteArray := prog_14_method_74_code
def yX12_plainReads : MethodName := ⟨RX12, "plainReads", "(I)I"⟩
abbrev cX12_readsBy : ByteArray := prog_14_method_75_code
def yX12_readsBy : MethodName := ⟨RX12, "readsBy", "(I)I"⟩
abbrev cX12_plainTakes : ByteArray := prog_14_method_76_code
def yX12_plainTakes : MethodName := ⟨RX12, "plainTakes", "(I)I"⟩
abbrev cX12_lawTakes : ByteArray := prog_14_method_77_code
def yX12_lawTakes : MethodName := ⟨RX12, "lawTakes", "(I)I"⟩
abbrev cX12_takesBy : ByteArray := prog_14_method_78_code
def yX12_takesBy : MethodName := ⟨RX12, "takesBy", "(I)I"⟩
abbrev cX12_plainGives : ByteArray := prog_14_method_79_code
def yX12_plainGives : MethodName := ⟨RX12, "plainGives", "(I)I"⟩
abbrev cX12_poemGives : ByteArray := prog_14_method_80_code
def yX12_poemGives : MethodName := ⟨RX12, "poemGives", "(I)I"⟩
abbrev cX12_givesBy : ByteArray := prog_14_method_81_code
def yX12_givesBy : MethodName := ⟨RX12, "givesBy", "(I)I"⟩
abbrev cX12_plainTells : ByteArray := prog_14_method_82_code
def yX12_plainTells : MethodName := ⟨RX12, "plainTells", "(I)I"⟩
abbrev cX12_tellsBy : ByteArray := prog_14_method_83_code
def yX12_tellsBy : MethodName := ⟨RX12, "tellsBy", "(I)I"⟩
abbrev cX12_voice : ByteArray := prog_14_method_84_code
def yX12_voice : MethodName := ⟨RX12, "voice", "(III)I"⟩
abbrev cX12_trace : ByteArray := prog_14_method_85_code
def yX12_trace : MethodName := ⟨RX12, "trace", "(I)I"⟩
abbrev cX12_isSheet : ByteArray := prog_14_method_86_code
def yX12_isSheet : MethodName := ⟨RX12, "isSheet", "(I)Z"⟩
abbrev cX12_sheet : ByteArray := prog_14_method_87_code
def yX12_sheet : MethodName := ⟨RX12, "sheet", "(III)I"⟩
abbrev cX12_wrong : ByteArray := prog_14_method_88_code
def yX12_wrong : MethodName := ⟨RX12, "wrong", "(I)I"⟩
abbrev cX12_put : ByteArray := prog_14_method_89_code
def yX12_put : MethodName := ⟨RX12, "put", "(III)I"⟩
abbrev cX12_move : ByteArray := prog_14_method_90_code
def yX12_move : MethodName := ⟨RX12, "move", "(IIIII)I"⟩
abbrev cX12_reads : ByteArray := prog_14_method_91_code
def yX12_reads : MethodName := ⟨RX12, "reads", "(I)I"⟩
abbrev cX12_judge : ByteArray := prog_14_method_92_code
def yX12_judge : MethodName := ⟨RX12, "judge", "(II)I"⟩
abbrev cX12_image : ByteArray := prog_14_method_93_code
def yX12_image : MethodName := ⟨RX12, "image", "()I"⟩
abbrev cX12_restore : ByteArray := prog_14_method_94_code
def yX12_restore : MethodName := ⟨RX12, "restore", "()I"⟩
abbrev cX12_tell : ByteArray := prog_14_method_95_code
def yX12_tell : MethodName := ⟨RX12, "tell", "(I)I"⟩
abbrev cX12_check : ByteArray := prog_14_method_96_code
def yX12_check : MethodName := ⟨RX12, "check", "()I"⟩
abbrev cX12_glasses : ByteArray := prog_14_method_97_code
def yX12_glasses : MethodName := ⟨RX12, "glasses", "()I"⟩
abbrev cX12_count : ByteArray := prog_14_method_98_code
def yX12_count : MethodName := ⟨RX12, "count", "(I)I"⟩
abbrev cX12_told : ByteArray := prog_14_method_99_code
def yX12_told : MethodName := ⟨RX12, "told", "(I)I"⟩
def RL : String := "ShelfNightsLaw"
abbrev cL_law : ByteArray := code
def yL_law : MethodName := ⟨RL, "law", "([I)Z"⟩
abbrev vwCl : List vw_C := [(RX0, TX0, 0), (RX1, TX1, 7), (RX2, TX2, 0), (RX3, TX3, 0), (RX4, TX4, 0), (RX5, TX5, 0), (RX6, TX6, 0), (RX7, TX7, 0), (RX8, TX8, 9), (RX9, TX9, 4), (RX10, TX10, 8), (RX11, TX11, 14), (RX12, TX12, 27)]
